/-! mend: the class's -/
theorem p_canMend {c row : Nat} {h : MHp} {A : AS} (C : CR c h A) (W : WA A) (hr : row < aN A 2) : ∃ h2 : MHp, mX9_canBeMended h (c + 56) (Int32.ofNat row) = some (if bB (aB A) (nvX A row) < bN (aB A) ∧ aA A 2 row = -2 ∧ aA A 3 row = -2 then 1 else 0, h2) ∧ Sc c h h2 := by
  have L := C.l
  have n60 := W.2.2.2.1
  have e1 := p_has1 L C.2.1.2.2.2.2.2.1 n60 hr
  have w12 := W.1.2.1
  have bd := bad_n (k := row) (n := 60) (by omega) (by omega)
  have clr : (Int32.ofNat row).toNatClampNeg = row := cl_of (by omega)
  obtain ⟨h2, e2, S2⟩ := C.rr W hr
  have L2 := S2.CL L
  have C2 := C.sc W S2
  have z7 : hAI h2 (c + 111) = aA A 2 := C2.2.2.1.2.2.2.2.2.2.1
  have z8 : hAI h2 (c + 112) = aA A 3 := C2.2.2.1.2.2.2.2.2.2.2.1
  have en : nvX A row = vX A row (aS A 3) 0 := rfl
  refine ⟨h2, ?_, S2⟩
  rw [mX9_canBeMended, b_rcv, if_pos (lK56 L), e1, o_bind, if_neg n10, b_rcv, if_pos (lK56 L), e2, o_bind, en]
  by_cases g : bB (aB A) (vX A row (aS A 3) 0) < bN (aB A)
  · rw [if_pos g, if_neg (nm2_of (by omega)), b_gR, if_pos (lK56 L2), lR56_1 L2, b_gAI, if_pos (lK111 L2), lN111 L2, if_neg bd, clr, z7]
    by_cases g2 : aA A 2 row = -2
    · rw [if_pos g2, b_gR, if_pos (lK56 L2), lR56_2 L2, b_gAI, if_pos (lK112 L2), lN112 L2, if_neg bd, clr, z8]
      by_cases g3 : aA A 3 row = -2
      · rw [if_pos g3, if_pos ⟨g, g2, g3⟩]
      · rw [if_neg g3, if_neg (fun hh => g3 hh.2.2)]
    · rw [if_neg g2, if_neg (fun hh => g2 hh.2.1)]
  · rw [if_neg g, if_pos rfl, if_neg (fun hh => g hh.1)]
theorem p_mw {c n row : Nat} {d v : Int32} {h : MHp} (L : CL c h) (ht : hI h (c + 56) 6 = Int32.ofNat n) (hn : n ≤ 60) (td : hI h (c + 56) 7 = d) (hr : row < n) : mX5_mendRow_b83 h (c + 185) (Int32.ofNat row) v = some (v, sAI (sAI h (c + 116) (va_cpy (hAI h (c + 188)) (hAI h (c + 116)) 0 (row * 6) 6)) (c + 112) (va_up (hAI h (c + 112)) row d)) := by
  have e1 := p_has1 L ht hn hr
  have bd := bad_n (k := row) (n := 60) (by omega) (by omega)
  have clr : (Int32.ofNat row).toNatClampNeg = row := cl_of (by omega)
  have e6 : Int32.ofNat row * 6 = Int32.ofNat (row * 6) := (Int32.ofNat_mul row 6).symm
  have kp := p_keep (h := h) (a := c + 188) (b := c + 116) (d := row * 6) (lK188 L) (lN188 L) (lK116 L) (lN116 L) (by omega) (by omega)
  obtain ⟨X, hX⟩ : ∃ X : MHp, X = sAI h (c + 116) (va_cpy (hAI h (c + 188)) (hAI h (c + 116)) 0 (row * 6) 6) := ⟨_, rfl⟩
  rw [← hX] at kp
  have LX : CL c X := by rw [hX]; exact L
  have tX : hI X (c + 56) 7 = d := by rw [hX]; exact td
  have xX : hAI X (c + 112) = hAI h (c + 112) := by rw [hX, e_sAI, if_neg (by omega)]
  rw [mX5_mendRow_b83, b_gR, if_pos (lK185 L), lR185_0 L, b_gR, if_pos (lK185 L), lR185_4 L, b_rcv, if_pos (lK56 L), mX9_mendWith, b_rcv, if_pos (lK56 L), e1, o_bind, if_neg n10, b_gR, if_pos (lK56 L), lR56_9 L, e6, kp, o_bind, b_gR, if_pos (lK56 LX), lR56_2 LX, b_gI, if_pos (lK56 LX), tX, b_pAI, if_pos (lK112 LX), lN112 LX, if_neg bd, clr, o_bind, xX, hX]
def mCt (A : AS) (row M : Nat) : Nat := (gvs (gvP A row M M) (aN A 2)).1
def mG0 (A : AS) (row M : Nat) : Nat := (gvs (gvP A row M M) (aN A 2)).2.2 0
def mVal (A : AS) (row M : Nat) (v : Nat → Nat) (f : Nat) : Int32 := if mCt A row M = 0 then mixW M (nvX A row) v f else nvX A (mG0 A row M) f
def g7A (A : AS) (row M : Nat) (v : Nat → Nat) (j : Nat) : Int32 := if row * 6 ≤ j ∧ j < row * 6 + bF (aB A) then mVal A row M v (j - row * 6) else aA A 7 j
def MdOK (A : AS) (row M : Nat) (v : Nat → Nat) : Prop := IsMin (aB A) (nvX A row) M ∧ (mCt A row M = 0 → MinV (aB A) (nvX A row) M v)
def mdN (A : AS) (row M : Nat) (v : Nat → Nat) : AS := setS (mdA A row M (g7A A row M v)) 4 (giv (gvP A row M M) (aN A 2))
theorem g7A_v {A : AS} {row M f : Nat} {v : Nat → Nat} (hf : f < bF (aB A)) : g7A A row M v (row * 6 + f) = mVal A row M v f := by
  unfold g7A
  rw [if_pos (by omega), show row * 6 + f - row * 6 = f by omega]
theorem g7A_o {A : AS} (W : WA A) {row M : Nat} {v : Nat → Nat} (j : Nat) (hj : j < row * 6 ∨ row * 6 + 6 ≤ j) : g7A A row M v j = aA A 7 j := by
  have := W.1.1
  unfold g7A
  rw [if_neg (by omega)]
theorem own_came {A : AS} {row f : Nat} (h3 : aA A 3 row = -2) (h4 : aA A 4 row = -2) : nvX A row f = aA A 6 (row * 6 + f) := by
  unfold nvX vX vA
  rw [h3, h4]
  have : sn (-2) (aS A 3) = false := by simp [sn]
  rw [this, Bool.false_and, if_neg Bool.false_ne_true]
  by_cases e : aA A 6 (row * 6 + f) = -1
  · rw [if_pos e, if_neg Bool.false_ne_true, e]
  · rw [if_neg e]
theorem unf {A : AS} (W : WA A) {row : Nat} (hr : row < aN A 2) (hb : bB (aB A) (nvX A row) < bN (aB A)) : aA A 4 row = -2 := by
  apply Classical.byContradiction
  intro h4
  have u12 := (W.2.2.2.2.2.2.2.2.2.1 row hr).2.2.2.2.2.2.2.2.2.2.2 h4
  have : bB (aB A) (nvX A row) = bN (aB A) := u12
  omega
theorem mG0_ok {A : AS} (W : WA A) {row M : Nat} (h : ¬ mCt A row M = 0) : mG0 A row M < aN A 2 ∧ mG0 A row M ≠ row ∧ gvB A row M M (mG0 A row M) = true := by
  rcases gvs_I (P := gvP A row M M) (gvP_6 W) (aN A 2) with I | ⟨z1, z2, z3, z4⟩
  · exact absurd I.1 h
  · have := z4 0 (by omega)
    refine ⟨this.1, ?_⟩
    have e := this.2
    change gvP A row M M (mG0 A row M) = _ at e
    unfold gvP at e
    by_cases g : mG0 A row M = row
    · rw [if_pos g] at e; cases e
    · rw [if_neg g] at e
      by_cases g2 : gvB A row M M (mG0 A row M) = true
      · exact ⟨g, g2⟩
      · rw [if_neg g2] at e; cases e
theorem le_N {k n : Nat} (h : k ≤ n) (hn : n < 2147483648) : Int32.ofNat k ≤ Int32.ofNat n := by
  rw [le_of (by omega) hn]; exact h
theorem ge_0 {k : Nat} (h : k < 2147483648) : (0 : Int32) ≤ Int32.ofNat k := by
  rw [show (0 : Int32) = Int32.ofNat 0 from rfl, le_of (by omega) h]; omega
theorem WA.mdN {A : AS} (W : WA A) {row M : Nat} {v : Nat → Nat} (hr : row < aN A 2) (hb : bB (aB A) (nvX A row) < bN (aB A)) (h3 : aA A 3 row = -2) (K : MdOK A row M v) : WA (mdN A row M v) := by
  have h4 := unf W hr hb
  have fr := K.1.fr W.1 hb
  refine WA.gv (W.md h4 (fun f hf hm => ?_) (g7A_o W)) _
  rw [mb_N (by have := W.1.1; omega)] at hm
  have t9 := (W.1.2.2.1 f hf).2.1
  have ff := cut_sub fr f hm
  rw [frN_t W.1, decide_eq_true hf, Bool.true_and, Bool.not_eq_true'] at ff
  have ng : ¬ nvX A row f = -1 := of_decide_eq_false ff
  rw [← own_came h3 h4, g7A_v hf]
  refine ⟨ng, ?_⟩
  unfold mVal
  by_cases z : mCt A row M = 0
  · rw [if_pos z]
    have mv := K.2 z
    unfold mixW
    rw [if_pos hm]
    have := mv.1.1 f hf hm
    exact ⟨ge_0 (by omega), le_N this (by omega)⟩
  · rw [if_neg z]
    obtain ⟨z1, z2, z3⟩ := mG0_ok W z
    unfold gvB at z3
    rw [Bool.and_eq_true, Bool.and_eq_true] at z3
    have a := allF_iff _ _ _ |>.mp z3.2.1 f (Nat.zero_le _) (by omega)
    rw [hm, Bool.true_and, Bool.not_eq_true'] at a
    rcases vA_in W z1 (fil := 0) (by omega) (aS A 3) f hf with e | ⟨u, hu, e⟩
    · exact absurd e (of_decide_eq_false a)
    · have e2 : nvX A (mG0 A row M) f = Int32.ofNat u := e
      rw [e2]
      exact ⟨ge_0 (by omega), le_N hu (by omega)⟩
theorem p_mendRow {c row : Nat} {h : MHp} {A : AS} (C : CR c h A) (W : WA A) (hr : row < aN A 2) (hb : bB (aB A) (nvX A row) < bN (aB A)) (h3 : aA A 3 row = -2) : (∃ h1 : MHp, mX5_mendRow h (c + 185) (Int32.ofNat row) = some (0, h1) ∧ Sc c h h1 ∧ ∀ T : Nat, 1 ≤ T → T < 2 ^ bF (aB A) → ¬ Mn (aB A) (nvX A row) T) ∨ ∃ (M : Nat) (v : Nat → Nat) (h1 : MHp), mX5_mendRow h (c + 185) (Int32.ofNat row) = some (Int32.ofNat M, h1) ∧ MdOK A row M v ∧ CR c h1 (mdN A row M v) ∧ Oc c h h1 := by
  have L := C.l
  have K := lK185 L
  have td := C.td
  have w6 := W.1.1
  have n60 := W.2.2.2.1
  have p6 := p2_64 w6
  have h4 := unf W hr hb
  have sp := W.2.2.2.2.2.2.2.2.2.2.2.2.2.2.2.2.2.2.2.2.2
  obtain ⟨g, e1, eg⟩ := p_lay C W hr (k := 186) (Or.inl rfl)
  obtain ⟨X, hX⟩ : ∃ X : MHp, X = sAI h (c + 186) g := ⟨_, rfl⟩
  have e1' : mX9_load h (c + 56) (Int32.ofNat row) (aS A 3) 0 (some (c + 186)) = some X := by rw [hX]; exact e1
  have SX : Sc c h X := by rw [hX]; exact Sc.AI 186 _ (by decide)
  have CX := C.sc W SX
  obtain ⟨b, GX⟩ := CX.rg W
  have LX := CX.l
  have ox : ∀ f : Nat, f < bF (aB A) → hAI X (c + 186) f = nvX A row f := fun f hf => by rw [hX, e_sAI, if_pos rfl, eg f hf]
  have ok : okX (aB A) (hAI X (c + 186)) := fun f hf => by rw [ox f hf]; exact vA_in W hr (by omega) (aS A 3) f hf
  have hbX : bB (aB A) (hAI X (c + 186)) < bN (aB A) := by rw [bB_congr W.1 ox]; exact hb
  obtain ⟨h1, S1, r1⟩ := p_cheapest GX W.2.2.2.2.2.2.2.2.2.2.2.2.2.2.2.2.2.2.2.2.2 ok hbX
  have C1 := CX.sc W S1.1
  have L1 := C1.l
  have o1 : ∀ f : Nat, f < bF (aB A) → hAI h1 (c + 186) f = nvX A row f := fun f hf => by rw [S1.own, ox f hf]
  have base : mX5_mendRow h (c + 185) (Int32.ofNat row) = (mX5_cheapestSet X (c + 185)).bind fun r19 => (if r19.1 = 0 then some (0, r19.2) else (rcv 6 r19.2 (some (c + 185))).bind fun b22 => (mX5_gatherGivers r19.2 b22 (Int32.ofNat row) r19.1 r19.1).bind fun r21 => (if r21.1 ≤ 0 then mX5_mendRow_b53 r21.2 (c + 185) (Int32.ofNat row) r19.1 (some (c + 185)) (-2) else (gR 6 7 r21.2 (some (c + 185))).bind fun x23 => (gAI 20 r21.2 x23 0).bind fun x24 => mX5_mendRow_b53 r21.2 (c + 185) (Int32.ofNat row) r19.1 (some (c + 185)) x24)) := by
    rw [mX5_mendRow, b_gR, if_pos K, lR185_0 L, b_gR, if_pos K, lR185_0 L, b_gI, if_pos (lK56 L), td, b_gR, if_pos K, lR185_2 L, b_rcv, if_pos (lK56 L), e1', o_bind, b_rcv, if_pos (lK185 LX)]
  rcases r1 with ⟨M, e2, mn⟩ | ⟨e2, nn⟩
  · right
    have mn2 := mn.x W.1 ox
    have M64 : M < 64 := by have := mn.2.1; omega
    have zM : ¬ Int32.ofNat M = 0 := by
      rw [show (0 : Int32) = Int32.ofNat 0 from rfl, eq_of (by omega) (by omega)]
      have := mn.1; omega
    obtain ⟨h2, e3, S2, t2⟩ := p_gather (must := M) C1 W M64 M64 (show row < 60 by omega) o1
    have C2 := C1.sc W S2.1
    have L2 := C2.l
    have o2 : ∀ f : Nat, f < bF (aB A) → hAI h2 (c + 186) f = nvX A row f := fun f hf => by rw [S2.2.2 _ (by omega) (by omega) (by omega), o1 f hf]
    have ct60 : mCt A row M ≤ aN A 2 := by
      unfold mCt
      rcases gvs_I (P := gvP A row M M) (gvP_6 W) (aN A 2) with I | I <;> omega
    rw [e2, o_bind, if_neg zM, b_rcv, if_pos (lK185 L1), e3, o_bind] at base
    have fin : ∀ (gv : Int32) (v : Nat → Nat) (H4 : MHp), Sc c (sI h2 (c + 185) 1 gv) H4 → gv = giv (gvP A row M M) (aN A 2) → MdOK A row M v → (∀ f : Nat, f < bF (aB A) → hAI H4 (c + 188) f = if M.testBit f = true then mVal A row M v f else nvX A row f) → ∃ h5 : MHp, mX5_mendRow_b83 H4 (c + 185) (Int32.ofNat row) (Int32.ofNat M) = some (Int32.ofNat M, h5) ∧ CR c h5 (mdN A row M v) ∧ Oc c h h5 := fun gv v H4 S4 eg4 KM hw => by
      have C3 := CR.gv W C2 gv
      have C4 := C3.sc (W.gv gv) S4
      have e6 := p_mw (row := row) (v := Int32.ofNat M) C4.l C4.2.1.2.2.2.2.2.1 n60 C4.td hr
      refine ⟨_, e6, ?_, ?_⟩
      · have := CR.md (W.gv gv) C4 (row := row) (M := M) (g7 := g7A A row M v) (w := hAI H4 (c + 188)) (by omega) (fun f hf => by
          rw [mb_N (by have : f < bF (aB A) := hf; omega), hw f hf, g7A_v (A := A) (show f < bF (aB A) from hf)]
          by_cases s : M.testBit f = true
          · rw [if_pos s, if_pos s]
          · rw [if_neg s, if_neg s]
            exact own_came h3 h4) (g7A_o W)
        rw [eg4] at this
        exact this
      · exact ((((((SX.oc).tr S1.1.oc).tr S2.1.oc).tr (Oc.I 185 1 gv (by omega))).tr S4.oc).tr (Oc.AI 116 _ (by omega))).tr (Oc.AI 112 _ (by omega))
    by_cases z : mCt A row M = 0
    · have z' : (gvs (gvP A row M M) (aN A 2)).1 = 0 := z
      have eg : (-2 : Int32) = giv (gvP A row M M) (aN A 2) := by unfold giv; rw [if_pos z']
      rw [z', if_pos (show Int32.ofNat 0 ≤ 0 by decide), mX5_mendRow_b53, b_pI, if_pos (lK185 L2)] at base
      obtain ⟨Y, hY⟩ : ∃ Y : MHp, Y = sI h2 (c + 185) 1 (-2) := ⟨_, rfl⟩
      have CY : CR c Y (setS A 4 (-2)) := by rw [hY]; exact CR.gv W C2 (-2)
      have LY := CY.l
      obtain ⟨b2, GY⟩ := CY.rg (W.gv (-2))
      have y1 : hI Y (c + 185) 1 = -2 := by rw [hY]; exact e_Iself _ _ _ _
      have yo : hAI Y (c + 186) = hAI h2 (c + 186) := by rw [hY]; rfl
      obtain ⟨h5, S5, r5⟩ := p_find (S := M) GY (fun f hf => bit_lt mn.2.1 f hf) sp
      rw [← hY, b_gI, if_pos (lK185 LY), y1, if_pos rfl, b_rcv, if_pos (lK185 LY)] at base
      have oy : ∀ f : Nat, f < bF (aB A) → hAI Y (c + 186) f = nvX A row f := fun f hf => by rw [yo, o2 f hf]
      rcases r5 with ⟨v, e5, mv, t5⟩ | ⟨e5, nv⟩
      · have mv2 := MinV.x W.1 oy mv
        obtain ⟨h6, e6, C6, O6⟩ := fin (-2) v h5 (by rw [← hY]; exact S5.1) eg ⟨mn2, fun _ => mv2⟩ (fun f hf => by
          rw [t5 f (by omega)]
          unfold mVal
          rw [if_pos z]
          unfold mixW
          by_cases s : M.testBit f = true
          · rw [if_pos s, if_pos s, if_pos s]
          · rw [if_neg s, if_neg s, oy f hf])
        exact ⟨M, v, h6, by rw [base, e5, o_bind, e6], ⟨mn2, fun _ => mv2⟩, C6, O6⟩
      · obtain ⟨v, hv⟩ := mn2.2.2.1
        exact absurd (hv.x W.1 (fun f hf => (oy f hf).symm)) (nv v)
    · have z' : ¬ (gvs (gvP A row M M) (aN A 2)).1 = 0 := z
      obtain ⟨z1, z2, z3⟩ := mG0_ok W z
      have eg : Int32.ofNat (mG0 A row M) = giv (gvP A row M M) (aN A 2) := by unfold giv; rw [if_neg z']; rfl
      have ng : ¬ Int32.ofNat (mG0 A row M) = -2 := nm2_of (by omega)
      have t0 : hAI h2 (c + 191) 0 = Int32.ofNat (mG0 A row M) := t2 0 (by omega)
      have nle : ¬ Int32.ofNat (gvs (gvP A row M M) (aN A 2)).1 ≤ 0 := by
        have ct : (gvs (gvP A row M M) (aN A 2)).1 ≤ aN A 2 := ct60
        rw [show (0 : Int32) = Int32.ofNat 0 from rfl, le_of (by omega) (by omega)]
        omega
      rw [if_neg nle, b_gR, if_pos (lK185 L2), lR185_7 L2, b_gAI, if_pos (lK191 L2), lN191 L2, if_neg (by decide), show (0 : Int32).toNatClampNeg = 0 from rfl, t0, mX5_mendRow_b53, b_pI, if_pos (lK185 L2)] at base
      obtain ⟨Y, hY⟩ : ∃ Y : MHp, Y = sI h2 (c + 185) 1 (Int32.ofNat (mG0 A row M)) := ⟨_, rfl⟩
      have CY : CR c Y (setS A 4 (Int32.ofNat (mG0 A row M))) := by rw [hY]; exact CR.gv W C2 _
      have LY := CY.l
      have y1 : hI Y (c + 185) 1 = Int32.ofNat (mG0 A row M) := by rw [hY]; exact e_Iself _ _ _ _
      have yo : hAI Y (c + 186) = hAI h2 (c + 186) := by rw [hY]; rfl
      obtain ⟨h5, e5, S5, o5, t5⟩ := p_take (row := row) (S := M) CY (W.gv _) z1 (fun f hf => by rw [yo]; exact o2 f hf)
      rw [← hY, b_gI, if_pos (lK185 LY), y1, if_neg ng, b_gI, if_pos (lK185 LY), y1, b_rcv, if_pos (lK185 LY), e5, o_bind] at base
      obtain ⟨h6, e6, C6, O6⟩ := fin (Int32.ofNat (mG0 A row M)) (fun _ => 0) h5 (by rw [← hY]; exact S5.1) eg ⟨mn2, fun hh => absurd hh z⟩ (fun f hf => by
        rw [t5 f hf]
        unfold mVal
        rw [if_neg z]
        rfl)
      exact ⟨M, fun _ => 0, h6, by rw [base, e6], ⟨mn2, fun hh => absurd hh z⟩, C6, O6⟩
  · left
    rw [e2, o_bind, if_pos rfl] at base
    exact ⟨h1, base, SX.tr S1.1, fun T a d e => nn T a d (e.x W.1 (fun f hf => (ox f hf).symm))⟩

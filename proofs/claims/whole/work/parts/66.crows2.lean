/-! the class's rows: loading them, their rules, their gaps -/
theorem rV_AI {c k r f fil : Nat} {h : MHp} {d : Int32} {g : Nat → Int32} (hk : k = 118 ∨ k = 186 ∨ k = 187 ∨ k = 188 ∨ k = 193) : rV c (sAI h (c + k) g) r f d fil = rV c h r f d fil := by
  have e : ∀ j : Nat, j = 112 ∨ j = 113 ∨ j = 115 ∨ j = 116 ∨ j = 117 → hAI (sAI h (c + k) g) (c + j) = hAI h (c + j) := fun j hj => va_ne _ _ (by omega)
  simp only [rV, e 112 (by omega), e 113 (by omega), e 115 (by omega), e 116 (by omega), e 117 (by omega)]
theorem lV_AI {c k nf r f fil : Nat} {h : MHp} {d : Int32} {g : Nat → Int32} (hk : k = 118 ∨ k = 186 ∨ k = 187 ∨ k = 188 ∨ k = 193) : lV c (sAI h (c + k) g) nf r d fil f = lV c h nf r d fil f := by
  have e : hAI (sAI h (c + k) g) (c + 110) = hAI h (c + 110) := va_ne _ _ (by omega)
  simp only [lV, rV_AI hk, e]
/-- a row's values as they are laid into a row of six -/
def lD (c : Nat) (h : MHp) (nf r : Nat) (d : Int32) (fil : Nat) (g : Nat → Int32) (j : Nat) : Int32 := if j < 6 then lV c h nf r d fil j else g j
theorem p_load_l3 {c b n nf r fil k : Nat} {h : MHp} (L : CL c h) (hb : hR h (c + 56) 5 = some b) (I : IsB h b) (ht : hI h (c + 56) 6 = Int32.ofNat n) (hn : n ≤ 60) (hf : hI h b 4 = Int32.ofNat nf) (hnf : nf ≤ 6) (hr : r < n) (hfil : fil < 5) (d : Int32) (hk : k = 118 ∨ k = 186 ∨ k = 187 ∨ k = 188 ∨ k = 193) (hkk : hK h (c + k) = 20) (hkn : hN h (c + k) = 6) :
    ∀ (m fu i : Nat) (g : Nat → Int32), i + m = 6 → m < fu → mX9_load_l3 fu (sAI h (c + k) g) (c + 56) (Int32.ofNat r) d (Int32.ofNat fil) (some (c + k)) (Int32.ofNat i) = some (sAI h (c + k) (fun j => if i ≤ j ∧ j < 6 then lV c h nf r d fil j else g j)) := by
  intro m
  induction m with
  | zero =>
    intro fu i g hi hfu
    obtain ⟨fu, rfl⟩ : ∃ g : Nat, fu = g + 1 := ⟨fu - 1, by omega⟩
    have e : (fun j => if i ≤ j ∧ j < 6 then lV c h nf r d fil j else g j) = g := by
      funext j; rw [if_neg (by omega)]
    rw [e]
    simp (disch := first | assumption | omega | (simp (disch := omega) only [Int32.lt_iff_toInt_lt, Int32.le_iff_toInt_le, ← Int32.toInt_inj, ti_of, Int32.reduceToInt]; omega)) only [mX9_load_l3, e_K_sAI, e_N_sAI, hkk, hkn, o_bind, o_map, b_rcv, b_gI, b_gL, b_gR, b_gN, b_pI, b_pL, b_pR, b_gAI, b_gAL, b_gAR, b_pAI, b_pAL, bad_of, bad_l, Bool.false_eq_true, ↓reduceIte, Int32.reduceLT, Int32.reduceLE, Int32.reduceToNatClampNeg, Int32.reduceOfNat, Int32.reduceAdd, Int32.reduceSub, Int32.reduceMul, Nat.reduceAdd, Nat.reduceMul, Nat.reduceEqDiff, if_pos, if_neg]
  | succ m ih =>
    intro fu i g hi hfu
    obtain ⟨fu, rfl⟩ : ∃ g : Nat, fu = g + 1 := ⟨fu - 1, by omega⟩
    have e1 := p_valueOn (h := sAI h (c + k) g) (r := r) (f := i) (fil := fil) L hb I ht hn hf hnf hr hfil d (by omega)
    rw [lV_AI hk] at e1
    have e2 := ih fu (i + 1) (va_up g i (lV c h nf r d fil i)) (by omega) (by omega)
    have e3 : (fun j => if i + 1 ≤ j ∧ j < 6 then lV c h nf r d fil j else va_up g i (lV c h nf r d fil i) j) = (fun j => if i ≤ j ∧ j < 6 then lV c h nf r d fil j else g j) := by
      funext j
      by_cases q : j = i
      · subst q; rw [if_neg (by omega), if_pos (by omega), va_up, if_pos rfl]
      · by_cases q2 : i + 1 ≤ j ∧ j < 6
        · rw [if_pos q2, if_pos (by omega)]
        · rw [if_neg q2, if_neg (by omega), va_up, if_neg q]
    rw [e3] at e2
    have k56 := lK56 L
    simp (disch := first | assumption | omega | (simp (disch := omega) only [Int32.lt_iff_toInt_lt, Int32.le_iff_toInt_le, ← Int32.toInt_inj, ti_of, Int32.reduceToInt]; omega)) only [mX9_load_l3, e_K_sAI, e_N_sAI, hkk, hkn, k56, e1, cl_of, s1_of, e_sAI, e_AI2, e2, o_bind, o_map, b_rcv, b_gI, b_gL, b_gR, b_gN, b_pI, b_pL, b_pR, b_gAI, b_gAL, b_gAR, b_pAI, b_pAL, bad_of, bad_l, Bool.false_eq_true, ↓reduceIte, Int32.reduceLT, Int32.reduceLE, Int32.reduceToNatClampNeg, Int32.reduceOfNat, Int32.reduceAdd, Int32.reduceSub, Int32.reduceMul, Nat.reduceAdd, Nat.reduceMul, Nat.reduceEqDiff, if_pos, if_neg]
theorem p_load {c b n nf r fil k : Nat} {h : MHp} (L : CL c h) (hb : hR h (c + 56) 5 = some b) (I : IsB h b) (ht : hI h (c + 56) 6 = Int32.ofNat n) (hn : n ≤ 60) (hf : hI h b 4 = Int32.ofNat nf) (hnf : nf ≤ 6) (hr : r < n) (hfil : fil < 5) (d : Int32) (hk : k = 118 ∨ k = 186 ∨ k = 187 ∨ k = 188 ∨ k = 193) (hkk : hK h (c + k) = 20) (hkn : hN h (c + k) = 6) :
    mX9_load h (c + 56) (Int32.ofNat r) d (Int32.ofNat fil) (some (c + k)) = some (sAI h (c + k) (lD c h nf r d fil (hAI h (c + k)))) := by
  have e := p_load_l3 L hb I ht hn hf hnf hr hfil d hk hkk hkn 6 FUEL 0 (hAI h (c + k)) (by omega) (by unfold FUEL; omega)
  rw [e_AIself] at e
  have e3 : (fun j => if 0 ≤ j ∧ j < 6 then lV c h nf r d fil j else hAI h (c + k) j) = lD c h nf r d fil (hAI h (c + k)) := by
    funext j; simp [lD]
  rw [e3] at e
  exact e

/-! tokens: the abstract reader, and the class's step -/
def rnP (P : Int32 → Bool) (g : Nat → Int32) (n : Nat) : Nat → Nat → Nat
  | 0, p => p
  | q + 1, p => if p < n ∧ P (g p) = true then rnP P g n q (p + 1) else p
def run (P : Int32 → Bool) (g : Nat → Int32) (n p : Nat) : Nat := rnP P g n (n - p) p
theorem run_s {P : Int32 → Bool} {g : Nat → Int32} {n p : Nat} (h : p < n) (hP : P (g p) = true) : run P g n p = run P g n (p + 1) := by
  unfold run
  rw [show n - p = (n - (p + 1)) + 1 by omega]
  show (if p < n ∧ P (g p) = true then rnP P g n (n - (p + 1)) (p + 1) else p) = _
  rw [if_pos ⟨h, hP⟩]
theorem run_e {P : Int32 → Bool} {g : Nat → Int32} {n p : Nat} (h : ¬ (p < n ∧ P (g p) = true)) : run P g n p = p := by
  unfold run
  by_cases e : p < n
  · rw [show n - p = (n - (p + 1)) + 1 by omega]
    show (if p < n ∧ P (g p) = true then rnP P g n (n - (p + 1)) (p + 1) else p) = _
    rw [if_neg h]
  · rw [show n - p = 0 by omega]; rfl
theorem run_le {P : Int32 → Bool} {g : Nat → Int32} {n : Nat} : ∀ q p : Nat, p + q = n → p ≤ run P g n p ∧ run P g n p ≤ n
  | 0, p, h => by rw [run_e (by omega)]; omega
  | q + 1, p, h => by
    by_cases e : p < n ∧ P (g p) = true
    · rw [run_s e.1 e.2]
      have := run_le (P := P) (g := g) (n := n) q (p + 1) (by omega)
      omega
    · rw [run_e e]; omega
theorem run_in {P : Int32 → Bool} {g : Nat → Int32} {n : Nat} : ∀ q p : Nat, p + q = n → ∀ k : Nat, p ≤ k → k < run P g n p → P (g k) = true
  | 0, p, h, k, h1, h2 => by rw [run_e (by omega)] at h2; omega
  | q + 1, p, h, k, h1, h2 => by
    by_cases e : p < n ∧ P (g p) = true
    · rw [run_s e.1 e.2] at h2
      by_cases z : k = p
      · rw [z]; exact e.2
      · exact run_in q (p + 1) (by omega) k (by omega) h2
    · rw [run_e e] at h2; omega
def pSp (x : Int32) : Bool := decide (x = 32)
def pLe (x : Int32) : Bool := decide (97 ≤ x) && decide (x ≤ 122)
def pDi (x : Int32) : Bool := decide (48 ≤ x) && decide (x ≤ 57)
def pSg (x : Int32) : Bool := decide (x = 59) || (decide (x = 44) || (decide (x = 61) || (decide (x = 60) || decide (x = 62))))
def lts (g : Nat → Int32) : Nat → Nat → List Nat
  | 0, _ => []
  | q + 1, s => (g s).toNatClampNeg :: lts g q (s + 1)
def wF (g : Nat → Int32) : Nat → Nat → Int64 → Int64
  | 0, _, a => a
  | q + 1, s, a => wF g q (s + 1) ((a <<< ((8 : Int32).toInt64 &&& 63)) ||| (g s).toInt64)
def dF (g : Nat → Int32) : Nat → Nat → Int32 → Int32
  | 0, _, a => a
  | q + 1, s, a => dF g q (s + 1) (((a * 10) + g s) - 48)
/-- kind (0 end 1 word 2 number 3 sign 4 none of these), start, end, value, letters -/
def Tok : Type := Nat × Nat × Nat × Int32 × List Nat
def mkT (k s e : Nat) (v : Int32) (l : List Nat) : Tok := (k, s, e, v, l)
def kK (t : Tok) : Nat := t.1
def kS (t : Tok) : Nat := t.2.1
def kE (t : Tok) : Nat := t.2.2.1
def kV (t : Tok) : Int32 := t.2.2.2.1
def kL (t : Tok) : List Nat := t.2.2.2.2
def tkOf (g : Nat → Int32) (n s : Nat) : Tok :=
  if s < run pLe g n s then (if run pLe g n s - s ≤ 8 then mkT 1 s (run pLe g n s) 0 (lts g (run pLe g n s - s) s) else mkT 4 s s 0 [])
  else if s < run pDi g n s then (if run pDi g n s - s ≤ 4 then mkT 2 s (run pDi g n s) (dF g (run pDi g n s - s) s 0) [] else mkT 4 s s 0 [])
  else if s < n then (if pSg (g s) = true then mkT 3 s (s + 1) (g s) [] else mkT 4 s s 0 [])
  else mkT 0 s s 0 []
def tokAt (g : Nat → Int32) (n p : Nat) : Tok := tkOf g n (run pSp g n p)
/-- the class's reader stands at a token -/
def TS (c : Nat) (g : Nat → Int32) (n : Nat) (h : MHp) : Prop := CL c h ∧ hAI h (c + 1) = g ∧ hI h (c + 55) 3 = Int32.ofNat n ∧ n ≤ 500
def PC (c : Nat) (g : Nat → Int32) (n : Nat) (t : Tok) (h : MHp) : Prop := TS c g n h ∧ kE t ≤ n ∧ hI h (c + 55) 2 = Int32.ofNat (kS t) ∧ hI h (c + 55) 5 = Int32.ofNat (kK t) ∧ (kK t ≠ 4 → hI h (c + 55) 4 = Int32.ofNat (kE t)) ∧ (kK t = 2 ∨ kK t = 3 → hI h (c + 55) 6 = kV t) ∧ (kK t = 1 → hL h (c + 55) 7 = wF g (kE t - kS t) (kS t) 0)
/-- changes in the reader alone, not in its end, its fault -/
def Sp (c : Nat) (h h' : MHp) : Prop := hK h' = hK h ∧ hN h' = hN h ∧ hR h' = hR h ∧ hAR h' = hAR h ∧ hAI h' = hAI h ∧ hAL h' = hAL h ∧ hS h' = hS h ∧ (∀ a : Nat, a ≠ c + 55 → hI h' a = hI h a ∧ hL h' a = hL h a) ∧ hI h' (c + 55) 3 = hI h (c + 55) 3 ∧ hI h' (c + 55) 1 = hI h (c + 55) 1
theorem Sp.rf {c : Nat} {h : MHp} : Sp c h h := ⟨rfl, rfl, rfl, rfl, rfl, rfl, rfl, fun _ _ => ⟨rfl, rfl⟩, rfl, rfl⟩
theorem Sp.tr {c : Nat} {h h1 h2 : MHp} (A : Sp c h h1) (B : Sp c h1 h2) : Sp c h h2 := by
  obtain ⟨a1, a2, a3, a4, a5, a6, a7, a8, a9, a10⟩ := A
  obtain ⟨b1, b2, b3, b4, b5, b6, b7, b8, b9, b10⟩ := B
  exact ⟨b1.trans a1, b2.trans a2, b3.trans a3, b4.trans a4, b5.trans a5, b6.trans a6, b7.trans a7, fun a ha => ⟨(b8 a ha).1.trans (a8 a ha).1, (b8 a ha).2.trans (a8 a ha).2⟩, b9.trans a9, b10.trans a10⟩
theorem Sp.I {c : Nat} {h : MHp} (j : Nat) (v : Int32) (h3 : j ≠ 3) (h1 : j ≠ 1) : Sp c h (sI h (c + 55) j v) :=
  ⟨rfl, rfl, rfl, rfl, rfl, rfl, rfl, fun a ha => ⟨by funext i; rw [e_sI, if_neg (fun e => ha e.1)], rfl⟩, by rw [e_sI, if_neg (fun e => h3 e.2.symm)], by rw [e_sI, if_neg (fun e => h1 e.2.symm)]⟩
theorem Sp.L {c : Nat} {h : MHp} (j : Nat) (v : Int64) : Sp c h (sL h (c + 55) j v) :=
  ⟨rfl, rfl, rfl, rfl, rfl, rfl, rfl, fun a ha => ⟨rfl, by funext i; rw [e_sL, if_neg (fun e => ha e.1)]⟩, rfl, rfl⟩
theorem Sp.CL {c : Nat} {h h' : MHp} (S : Sp c h h') (L : CL c h) : CL c h' := by
  obtain ⟨l1, l2, l3⟩ := L
  obtain ⟨a1, a2, a3, a4, -⟩ := S
  exact ⟨by rw [a1, a2]; exact l1, by rw [a3]; exact l2, by rw [a4]; exact l3⟩
theorem Sp.TS {c n : Nat} {g : Nat → Int32} {h h' : MHp} (S : Sp c h h') (T : TS c g n h) : TS c g n h' :=
  ⟨S.CL T.1, by rw [S.2.2.2.2.1]; exact T.2.1, by rw [S.2.2.2.2.2.2.2.2.1]; exact T.2.2.1, T.2.2.2⟩
theorem p_byte {c n p : Nat} {g : Nat → Int32} {h : MHp} (T : TS c g n h) (hp : p < n) : mX8_byteAt h (c + 55) (Int32.ofNat p) = some (g p) := by
  obtain ⟨L, t1, t2, t3⟩ := T
  rw [mX8_byteAt, if_neg (nlt0 (by omega)), b_gR, if_pos (lK55 L), lR55_0 L, b_gN, if_pos (lK1 L), lN1 L, if_neg (by rw [le_of (by omega) (by omega)]; omega), b_gR, if_pos (lK55 L), lR55_0 L, b_gAI, if_pos (lK1 L), lN1 L, if_neg (bad_n (by omega) (by omega)), cl_of (by omega), t1]
theorem p_letter (h : MHp) (x : Int32) : mX8_isLetter h x = some (if pLe x = true then 1 else 0) := by
  unfold mX8_isLetter pLe
  by_cases h1 : x < 97
  · simp [h1, le_y h1]
  · by_cases h2 : 122 < x
    · simp [h1, h2, le_y h2]
    · simp [h1, h2, le_n h1, le_n h2]
theorem p_digit (h : MHp) (x : Int32) : mX8_isDigit h x = some (if pDi x = true then 1 else 0) := by
  unfold mX8_isDigit pDi
  by_cases h1 : x < 48
  · simp [h1, le_y h1]
  · by_cases h2 : 57 < x
    · simp [h1, h2, le_y h2]
    · simp [h1, h2, le_n h1, le_n h2]
theorem c_sp {c n : Nat} {g : Nat → Int32} : ∀ (q p fu : Nat) (h : MHp), TS c g n h → hI h (c + 55) 2 = Int32.ofNat p → p + q = n → q < fu → ∃ h1 : MHp, mX8_step_l13 fu h (c + 55) (Int32.ofNat p) = mX8_step_b44 h1 (c + 55) ∧ Sp c h h1 ∧ hI h1 (c + 55) 2 = Int32.ofNat (run pSp g n p) := by
  intro q
  induction q with
  | zero =>
    intro p fu h T hs hq hfu
    obtain ⟨fu, rfl⟩ : ∃ g : Nat, fu = g + 1 := ⟨fu - 1, by omega⟩
    have n5 := T.2.2.2
    refine ⟨h, ?_, Sp.rf, by rw [run_e (by omega)]; exact hs⟩
    rw [mX8_step_l13, b_gI, if_pos (lK55 T.1), T.2.2.1, if_pos (by rw [le_of (by omega) (by omega)]; omega)]
  | succ q ih =>
    intro p fu h T hs hq hfu
    obtain ⟨fu, rfl⟩ : ∃ g : Nat, fu = g + 1 := ⟨fu - 1, by omega⟩
    have n5 := T.2.2.2
    have np : ¬ Int32.ofNat n ≤ Int32.ofNat p := by rw [le_of (by omega) (by omega)]; omega
    by_cases e : g p = 32
    · have SX : Sp c h (sI h (c + 55) 2 (Int32.ofNat (p + 1))) := Sp.I 2 _ (by decide) (by decide)
      obtain ⟨h1, e1, S1, r1⟩ := ih (p + 1) fu _ (SX.TS T) (e_Iself _ _ _ _) (by omega) (by omega)
      refine ⟨h1, ?_, SX.tr S1, by rw [r1, ← run_s (show p < n by omega) (show pSp (g p) = true from decide_eq_true e)]⟩
      rw [mX8_step_l13, b_gI, if_pos (lK55 T.1), T.2.2.1, if_neg np, b_rcv, if_pos (lK55 T.1), p_byte T (by omega), o_bind, if_pos e, b_pI, if_pos (lK55 T.1), s1_of, e1]
    · refine ⟨h, ?_, Sp.rf, by rw [run_e (fun hh => e (of_decide_eq_true hh.2))]; exact hs⟩
      rw [mX8_step_l13, b_gI, if_pos (lK55 T.1), T.2.2.1, if_neg np, b_rcv, if_pos (lK55 T.1), p_byte T (by omega), o_bind, if_neg e]
theorem c_le {c n s : Nat} {g : Nat → Int32} : ∀ (q p fu : Nat) (h : MHp), TS c g n h → hI h (c + 55) 2 = Int32.ofNat s → hI h (c + 55) 4 = Int32.ofNat p → p + q = n → q < fu → ∃ h1 : MHp, mX8_step_l67 fu h (c + 55) (Int32.ofNat p) = mX8_step_b117 h1 (c + 55) ∧ Sp c h h1 ∧ hI h1 (c + 55) 2 = Int32.ofNat s ∧ hI h1 (c + 55) 6 = hI h (c + 55) 6 ∧ hI h1 (c + 55) 4 = Int32.ofNat (run pLe g n p) ∧ hL h1 (c + 55) 7 = wF g (run pLe g n p - p) p (hL h (c + 55) 7) := by
  intro q
  induction q with
  | zero =>
    intro p fu h T h2 h4 hq hfu
    obtain ⟨fu, rfl⟩ : ∃ g : Nat, fu = g + 1 := ⟨fu - 1, by omega⟩
    have n5 := T.2.2.2
    refine ⟨h, ?_, Sp.rf, h2, rfl, by rw [run_e (by omega)]; exact h4, by rw [run_e (by omega), Nat.sub_self]; rfl⟩
    rw [mX8_step_l67, b_gI, if_pos (lK55 T.1), T.2.2.1, if_pos (by rw [le_of (by omega) (by omega)]; omega)]
  | succ q ih =>
    intro p fu h T h2 h4 hq hfu
    obtain ⟨fu, rfl⟩ : ∃ g : Nat, fu = g + 1 := ⟨fu - 1, by omega⟩
    have n5 := T.2.2.2
    have np : ¬ Int32.ofNat n ≤ Int32.ofNat p := by rw [le_of (by omega) (by omega)]; omega
    by_cases e : pLe (g p) = true
    · obtain ⟨X, hX⟩ : ∃ X : MHp, X = sL h (c + 55) 7 (((hL h (c + 55) 7) <<< ((8 : Int32).toInt64 &&& 63)) ||| (g p).toInt64) := ⟨_, rfl⟩
      have SX : Sp c h X := by rw [hX]; exact Sp.L 7 _
      have TX := SX.TS T
      have SY : Sp c X (sI X (c + 55) 4 (Int32.ofNat (p + 1))) := Sp.I 4 _ (by decide) (by decide)
      obtain ⟨h1, e1, S1, r2, r6, r4, r7⟩ := ih (p + 1) fu _ (SY.TS TX) (by rw [e_sI, if_neg (by omega), hX]; exact h2) (e_Iself _ _ _ _) (by omega) (by omega)
      have rs := run_s (P := pLe) (g := g) (show p < n by omega) e
      have rl := run_le (P := pLe) (g := g) (n := n) q (p + 1) (by omega)
      refine ⟨h1, ?_, (SX.tr SY).tr S1, r2, by rw [r6, e_sI, if_neg (by omega), hX]; rfl, by rw [r4, rs], ?_⟩
      · rw [mX8_step_l67, b_gI, if_pos (lK55 T.1), T.2.2.1, if_neg np, b_rcv, if_pos (lK55 T.1), p_byte T (by omega), o_bind, p_letter, if_pos e, o_bind, if_neg n10, b_gL, if_pos (lK55 T.1), b_rcv, if_pos (lK55 T.1), p_byte T (by omega), o_bind, b_pL, if_pos (lK55 T.1), ← hX, b_pI, if_pos (lK55 TX.1), s1_of, e1]
      · rw [r7, rs, show run pLe g n (p + 1) - p = (run pLe g n (p + 1) - (p + 1)) + 1 by omega]
        show wF g (run pLe g n (p + 1) - (p + 1)) (p + 1) (hL (sI X (c + 55) 4 (Int32.ofNat (p + 1))) (c + 55) 7) = wF g (run pLe g n (p + 1) - (p + 1)) (p + 1) (((hL h (c + 55) 7) <<< ((8 : Int32).toInt64 &&& 63)) ||| (g p).toInt64)
        rw [e_L_sI, hX, e_sL, if_pos ⟨rfl, rfl⟩]
    · have re := run_e (P := pLe) (g := g) (n := n) (p := p) (fun hh => e hh.2)
      refine ⟨h, ?_, Sp.rf, h2, rfl, by rw [re]; exact h4, by rw [re, Nat.sub_self]; rfl⟩
      rw [mX8_step_l67, b_gI, if_pos (lK55 T.1), T.2.2.1, if_neg np, b_rcv, if_pos (lK55 T.1), p_byte T (by omega), o_bind, p_letter, if_neg e, o_bind, if_pos rfl]
theorem c_di {c n s : Nat} {v1 : Int32} {g : Nat → Int32} : ∀ (q p fu : Nat) (h : MHp), TS c g n h → hI h (c + 55) 2 = Int32.ofNat s → p + q = n → q < fu → ∃ h1 : MHp, mX8_step_l132 fu h (c + 55) v1 (Int32.ofNat p) = mX8_step_b184 h1 (c + 55) v1 ∧ Sp c h h1 ∧ hI h1 (c + 55) 2 = Int32.ofNat s ∧ hI h1 (c + 55) 4 = (if p < run pDi g n p then Int32.ofNat (run pDi g n p) else hI h (c + 55) 4) ∧ hI h1 (c + 55) 6 = dF g (run pDi g n p - p) p (hI h (c + 55) 6) ∧ hL h1 = hL h := by
  intro q
  induction q with
  | zero =>
    intro p fu h T h2 hq hfu
    obtain ⟨fu, rfl⟩ : ∃ g : Nat, fu = g + 1 := ⟨fu - 1, by omega⟩
    have n5 := T.2.2.2
    refine ⟨h, ?_, Sp.rf, h2, by rw [run_e (by omega), if_neg (Nat.lt_irrefl _)], by rw [run_e (by omega), Nat.sub_self]; rfl, rfl⟩
    rw [mX8_step_l132, b_gI, if_pos (lK55 T.1), T.2.2.1, if_pos (by rw [le_of (by omega) (by omega)]; omega)]
  | succ q ih =>
    intro p fu h T h2 hq hfu
    obtain ⟨fu, rfl⟩ : ∃ g : Nat, fu = g + 1 := ⟨fu - 1, by omega⟩
    have n5 := T.2.2.2
    have np : ¬ Int32.ofNat n ≤ Int32.ofNat p := by rw [le_of (by omega) (by omega)]; omega
    by_cases e : pDi (g p) = true
    · obtain ⟨X, hX⟩ : ∃ X : MHp, X = sI h (c + 55) 6 (((hI h (c + 55) 6 * 10) + g p) - 48) := ⟨_, rfl⟩
      have SX : Sp c h X := by rw [hX]; exact Sp.I 6 _ (by decide) (by decide)
      have TX := SX.TS T
      have SY : Sp c X (sI X (c + 55) 4 (Int32.ofNat (p + 1))) := Sp.I 4 _ (by decide) (by decide)
      obtain ⟨h1, e1, S1, r2, r4, r6, r7⟩ := ih (p + 1) fu _ (SY.TS TX) (by rw [e_sI, if_neg (by omega), hX, e_sI, if_neg (by omega)]; exact h2) (by omega) (by omega)
      have rs := run_s (P := pDi) (g := g) (show p < n by omega) e
      have rl := run_le (P := pDi) (g := g) (n := n) q (p + 1) (by omega)
      refine ⟨h1, ?_, (SX.tr SY).tr S1, r2, ?_, ?_, ?_⟩
      · rw [mX8_step_l132, b_gI, if_pos (lK55 T.1), T.2.2.1, if_neg np, b_rcv, if_pos (lK55 T.1), p_byte T (by omega), o_bind, p_digit, if_pos e, o_bind, if_neg n10, b_gI, if_pos (lK55 T.1), b_rcv, if_pos (lK55 T.1), p_byte T (by omega), o_bind, b_pI, if_pos (lK55 T.1), ← hX, b_pI, if_pos (lK55 TX.1), s1_of, e1]
      · rw [r4, rs, if_pos (show p < run pDi g n (p + 1) by omega), e_Iself]
        by_cases z : p + 1 < run pDi g n (p + 1)
        · rw [if_pos z]
        · rw [if_neg z, show run pDi g n (p + 1) = p + 1 by omega]
      · rw [r6, rs, show run pDi g n (p + 1) - p = (run pDi g n (p + 1) - (p + 1)) + 1 by omega]
        show dF g (run pDi g n (p + 1) - (p + 1)) (p + 1) (hI (sI X (c + 55) 4 (Int32.ofNat (p + 1))) (c + 55) 6) = dF g (run pDi g n (p + 1) - (p + 1)) (p + 1) (((hI h (c + 55) 6 * 10) + g p) - 48)
        rw [e_sI, if_neg (by omega), hX, e_Iself]
      · rw [r7, e_L_sI, hX, e_L_sI]
    · have re := run_e (P := pDi) (g := g) (n := n) (p := p) (fun hh => e hh.2)
      refine ⟨h, ?_, Sp.rf, h2, by rw [re, if_neg (Nat.lt_irrefl _)], by rw [re, Nat.sub_self]; rfl, rfl⟩
      rw [mX8_step_l132, b_gI, if_pos (lK55 T.1), T.2.2.1, if_neg np, b_rcv, if_pos (lK55 T.1), p_byte T (by omega), o_bind, p_digit, if_neg e, o_bind, if_pos rfl]

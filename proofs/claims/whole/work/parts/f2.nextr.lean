/-! the reference's next -/
def TSr (m : Nat) (g : Nat → Int32) (n : Nat) (h : MHp) : Prop := QL m h ∧ hAI h (m + 3) = g ∧ hI h m 11 = Int32.ofNat n ∧ n ≤ 500
def rcd (k : Nat) : Int32 := if k = 0 then 1 else if k = 1 then 2 else if k = 2 then 3 else if k = 3 then 4 else 0
def vF (g : Nat → Int32) : Nat → Nat → Int64 → Int64
  | 0, _, a => a
  | q + 1, s, a => vF g q (s + 1) ((32 * a) + ((g s - 97) + 1).toInt64)
def PR (m : Nat) (g : Nat → Int32) (n : Nat) (t : Tok) (h : MHp) : Prop := TSr m g n h ∧ kE t ≤ n ∧ hI h m 14 = Int32.ofNat (kS t) ∧ hI h m 13 = rcd (kK t) ∧ (kK t ≠ 4 → hI h m 12 = Int32.ofNat (kE t)) ∧ (kK t = 3 → hI h m 15 = kV t) ∧ (kK t = 2 → hI h m 16 = kV t) ∧ (kK t = 1 → hL h m 17 = vF g (kE t - kS t) (kS t) 0)
def Sn (m : Nat) (h h' : MHp) : Prop := hK h' = hK h ∧ hN h' = hN h ∧ hR h' = hR h ∧ hAR h' = hAR h ∧ hAI h' = hAI h ∧ hAL h' = hAL h ∧ hS h' = hS h ∧ (∀ a : Nat, a ≠ m → hI h' a = hI h a ∧ hL h' a = hL h a) ∧ ∀ j : Nat, ¬ (12 ≤ j ∧ j ≤ 16) → hI h' m j = hI h m j
theorem Sn.rf {m : Nat} {h : MHp} : Sn m h h := ⟨rfl, rfl, rfl, rfl, rfl, rfl, rfl, fun _ _ => ⟨rfl, rfl⟩, fun _ _ => rfl⟩
theorem Sn.tr {m : Nat} {h h1 h2 : MHp} (A : Sn m h h1) (B : Sn m h1 h2) : Sn m h h2 := by
  obtain ⟨a1, a2, a3, a4, a5, a6, a7, a8, a9⟩ := A
  obtain ⟨b1, b2, b3, b4, b5, b6, b7, b8, b9⟩ := B
  exact ⟨b1.trans a1, b2.trans a2, b3.trans a3, b4.trans a4, b5.trans a5, b6.trans a6, b7.trans a7, fun a ha => ⟨(b8 a ha).1.trans (a8 a ha).1, (b8 a ha).2.trans (a8 a ha).2⟩, fun j hj => (b9 j hj).trans (a9 j hj)⟩
theorem Sn.I {m : Nat} {h : MHp} (j : Nat) (v : Int32) (hj : 12 ≤ j ∧ j ≤ 16) : Sn m h (sI h m j v) :=
  ⟨rfl, rfl, rfl, rfl, rfl, rfl, rfl, fun a ha => ⟨by funext i; rw [e_sI, if_neg (fun e => ha e.1)], rfl⟩, fun i hi => by rw [e_sI, if_neg (fun e => hi (by rw [e.2]; exact hj))]⟩
theorem Sn.L {m : Nat} {h : MHp} (j : Nat) (v : Int64) : Sn m h (sL h m j v) :=
  ⟨rfl, rfl, rfl, rfl, rfl, rfl, rfl, fun a ha => ⟨rfl, by funext i; rw [e_sL, if_neg (fun e => ha e.1)]⟩, fun _ _ => rfl⟩
theorem Sn.rs {m : Nat} {h h' : MHp} (S : Sn m h h') : Rs m h h' := by
  obtain ⟨a1, a2, a3, a4, a5, a6, a7, a8, a9⟩ := S
  refine ⟨a1, a2, a3, a4, a7, fun j hj => a9 j (fun hh => ?_), fun a _ => ⟨fun ha => a8 a ha, by rw [a5], by rw [a6]⟩⟩
  have : rsI j = true := by
    unfold rsI
    rw [decide_eq_true_eq]
    omega
  rw [this] at hj
  cases hj
theorem Sn.TSr {m n : Nat} {g : Nat → Int32} {h h' : MHp} (S : Sn m h h') (T : TSr m g n h) : TSr m g n h' :=
  ⟨S.rs.QL T.1, by rw [S.2.2.2.2.1]; exact T.2.1, by rw [S.2.2.2.2.2.2.2.2 11 (by omega)]; exact T.2.2.1, T.2.2.2⟩
def bytP (x : Int32) : Bool := (decide (x &&& 255 = 32) == decide (x = 32)) && (pLe (x &&& 255) == pLe x) && (pDi (x &&& 255) == pDi x) && (pSg (x &&& 255) == pSg x) && !(decide (x &&& 255 = -1)) && (!(pLe x || pDi x || pSg x) || decide (x &&& 255 = x))
theorem byt_all : ∀ i : Nat, i < 256 → bytP (Int8.ofBitVec (BitVec.ofNat 8 i)).toInt32 = true := by decide +kernel
theorem byt_P {x : Int32} (hx : x.toInt8.toInt32 = x) : bytP x = true := by
  have h := byt_all x.toInt8.toBitVec.toNat x.toInt8.toBitVec.isLt
  rw [BitVec.ofNat_toNat, BitVec.setWidth_eq] at h
  have e : (Int8.ofBitVec x.toInt8.toBitVec).toInt32 = x := hx
  rw [e] at h
  exact h
theorem byt_f {x : Int32} (hx : x.toInt8.toInt32 = x) : (x &&& 255 = 32 ↔ x = 32) ∧ pLe (x &&& 255) = pLe x ∧ pDi (x &&& 255) = pDi x ∧ pSg (x &&& 255) = pSg x ∧ ¬ (x &&& 255 = -1) ∧ (pLe x = true ∨ pDi x = true ∨ pSg x = true → x &&& 255 = x) := by
  have h := byt_P hx
  unfold bytP at h
  simp only [Bool.and_eq_true, beq_iff_eq, Bool.not_eq_true', decide_eq_false_iff_not, Bool.or_eq_true, Bool.or_eq_false_iff, decide_eq_true_eq] at h
  obtain ⟨⟨⟨⟨⟨h1, h2⟩, h3⟩, h4⟩, h5⟩, h6⟩ := h
  refine ⟨by rw [← decide_eq_decide]; exact h1, h2, h3, h4, h5, fun hh => ?_⟩
  rcases h6 with h6 | h6
  · rcases hh with hh | hh | hh
    · rw [h6.1.1] at hh; cases hh
    · rw [h6.1.2] at hh; cases hh
    · rw [h6.2] at hh; cases hh
  · exact h6
theorem q_byte {m n p : Nat} {g : Nat → Int32} {h : MHp} (T : TSr m g n h) (hp : p ≤ n) : mX16_byteAt h m (Int32.ofNat p) = some (if p < n then g p &&& 255 else -1) := by
  obtain ⟨L, t1, t2, t3⟩ := T
  by_cases e : p < n
  · rw [if_pos e, mX16_byteAt, b_gI, if_pos (qK0 L), t2, if_neg (by rw [le_of (by omega) (by omega)]; omega), b_gR, if_pos (qK0 L), qR9 L, b_gAI, if_pos (qK3 L), qN3 L, if_neg (bad_n (by omega) (by omega)), cl_of (by omega), t1]
  · rw [if_neg e, mX16_byteAt, b_gI, if_pos (qK0 L), t2, if_pos (by rw [le_of (by omega) (by omega)]; omega)]
theorem q_letter (h : MHp) (x : Int32) : mX16_isLetter h x = some (if pLe x = true then 1 else 0) := p_letter h x
theorem q_digit (h : MHp) (x : Int32) : mX16_isDigit h x = some (if pDi x = true then 1 else 0) := p_digit h x
theorem q_le0 {m p v fu : Nat} {x : Int32} {h : MHp} (L : QL m h) (h12 : hI h m 12 = Int32.ofNat p) (h13 : hI h m 13 = 0) (hv : v ≤ 1000) (ex : mX16_byteAt h m (Int32.ofNat p) = some x) (nx : ¬ pLe x = true) : ∃ h1 : MHp, mX16_next_l80 (fu + 1) h m (Int32.ofNat v) = some h1 ∧ Sn m h h1 ∧ hI h1 m 14 = hI h m 14 ∧ hI h1 m 12 = Int32.ofNat p ∧ hI h1 m 13 = (if v ≤ 8 then 2 else 0) ∧ hL h1 m 17 = hL h m 17 := by
  have base : mX16_next_l80 (fu + 1) h m (Int32.ofNat v) = if 8 < Int32.ofNat v then some h else some (sI h m 13 2) := by
    rw [mX16_next_l80, b_gI, if_pos (qK0 L), h12, b_rcv, if_pos (qK0 L), ex, o_bind, q_letter, if_neg nx, o_bind, if_pos rfl, b_pI, if_pos (qK0 L)]
  by_cases e : v ≤ 8
  · refine ⟨sI h m 13 2, ?_, Sn.I 13 _ (by omega), by rw [e_sI, if_neg (by omega)], by rw [e_sI, if_neg (by omega)]; exact h12, by rw [e_Iself, if_pos e], rfl⟩
    rw [base, if_neg (by rw [show (8 : Int32) = Int32.ofNat 8 from rfl, lt_of' (by omega) (by omega)]; omega)]
  · refine ⟨h, ?_, Sn.rf, rfl, h12, by rw [h13, if_neg e], rfl⟩
    rw [base, if_pos (by rw [show (8 : Int32) = Int32.ofNat 8 from rfl, lt_of' (by omega) (by omega)]; omega)]
theorem q_le {m n : Nat} {g : Nat → Int32} (hb : ∀ k : Nat, (g k).toInt8.toInt32 = g k) : ∀ (q p v fu : Nat) (h : MHp), TSr m g n h → hI h m 12 = Int32.ofNat p → hI h m 13 = 0 → p + q = n → v + q ≤ 1000 → q < fu → ∃ h1 : MHp, mX16_next_l80 fu h m (Int32.ofNat v) = some h1 ∧ Sn m h h1 ∧ hI h1 m 14 = hI h m 14 ∧ hI h1 m 12 = Int32.ofNat (run pLe g n p) ∧ hI h1 m 13 = (if v + (run pLe g n p - p) ≤ 8 then 2 else 0) ∧ (v + (run pLe g n p - p) ≤ 8 → hL h1 m 17 = vF g (run pLe g n p - p) p (hL h m 17)) := by
  intro q
  induction q with
  | zero =>
    intro p v fu h T h12 h13 hq hv hfu
    obtain ⟨fu, rfl⟩ : ∃ g : Nat, fu = g + 1 := ⟨fu - 1, by omega⟩
    have ex := q_byte T (show p ≤ n by omega)
    rw [if_neg (by omega)] at ex
    obtain ⟨h1, e1, S1, r1, r2, r3, r4⟩ := q_le0 (fu := fu) T.1 h12 h13 (show v ≤ 1000 by omega) ex (by decide)
    rw [run_e (by omega), Nat.sub_self, Nat.add_zero]
    exact ⟨h1, e1, S1, r1, r2, r3, fun _ => r4⟩
  | succ q ih =>
    intro p v fu h T h12 h13 hq hv hfu
    obtain ⟨fu, rfl⟩ : ∃ g : Nat, fu = g + 1 := ⟨fu - 1, by omega⟩
    have n5 := T.2.2.2
    have L := T.1
    have ex := q_byte T (show p ≤ n by omega)
    rw [if_pos (by omega)] at ex
    obtain ⟨f1, f2, f3, f4, f5, f6⟩ := byt_f (hb p)
    by_cases e : pLe (g p) = true
    · rw [f6 (Or.inl e)] at ex
      have rs := run_s (P := pLe) (g := g) (show p < n by omega) e
      have rl := run_le (P := pLe) (g := g) (n := n) q (p + 1) (by omega)
      by_cases v8 : 8 ≤ v
      · obtain ⟨X, hX⟩ : ∃ X : MHp, X = sI h m 12 (Int32.ofNat (p + 1)) := ⟨_, rfl⟩
        have SX : Sn m h X := by rw [hX]; exact Sn.I 12 _ (by omega)
        obtain ⟨h1, e1, S1, r1, r2, r3, r4⟩ := ih (p + 1) (v + 1) fu X (SX.TSr T) (by rw [hX, e_Iself]) (by rw [hX, e_sI, if_neg (by omega)]; exact h13) (by omega) (by omega) (by omega)
        refine ⟨h1, ?_, SX.tr S1, by rw [r1, hX, e_sI, if_neg (by omega)], by rw [r2, rs], ?_, fun hh => ?_⟩
        · rw [mX16_next_l80, b_gI, if_pos (qK0 L), h12, b_rcv, if_pos (qK0 L), ex, o_bind, q_letter, if_pos e, o_bind, if_neg n10, if_pos (by rw [show (8 : Int32) = Int32.ofNat 8 from rfl, le_of (by omega) (by omega)]; exact v8), mX16_next_b127, b_gI, if_pos (qK0 L), h12, b_pI, if_pos (qK0 L), s1_of, ← hX, s1_of, e1]
        · rw [r3, rs, if_neg (by omega), if_neg (by omega)]
        · rw [rs] at hh; omega
      · obtain ⟨X, hX⟩ : ∃ X : MHp, X = sL h m 17 ((32 * hL h m 17) + ((g p - 97) + 1).toInt64) := ⟨_, rfl⟩
        obtain ⟨Y, hY⟩ : ∃ Y : MHp, Y = sI X m 12 (Int32.ofNat (p + 1)) := ⟨_, rfl⟩
        have SX : Sn m h X := by rw [hX]; exact Sn.L 17 _
        have SY : Sn m X Y := by rw [hY]; exact Sn.I 12 _ (by omega)
        have TX := SX.TSr T
        have LX := TX.1
        have x12 : hI X m 12 = Int32.ofNat p := by rw [hX]; exact h12
        obtain ⟨h1, e1, S1, r1, r2, r3, r4⟩ := ih (p + 1) (v + 1) fu Y (SY.TSr TX) (by rw [hY, e_Iself]) (by rw [hY, e_sI, if_neg (by omega), hX]; exact h13) (by omega) (by omega) (by omega)
        refine ⟨h1, ?_, (SX.tr SY).tr S1, by rw [r1, hY, e_sI, if_neg (by omega), hX]; rfl, by rw [r2, rs], ?_, fun hh => ?_⟩
        · rw [mX16_next_l80, b_gI, if_pos (qK0 L), h12, b_rcv, if_pos (qK0 L), ex, o_bind, q_letter, if_pos e, o_bind, if_neg n10, if_neg (by rw [show (8 : Int32) = Int32.ofNat 8 from rfl, le_of (by omega) (by omega)]; exact v8), b_gL, if_pos (qK0 L), b_gI, if_pos (qK0 L), h12, b_rcv, if_pos (qK0 L), ex, o_bind, b_pL, if_pos (qK0 L), ← hX, mX16_next_b127, b_gI, if_pos (qK0 LX), x12, b_pI, if_pos (qK0 LX), s1_of, ← hY, s1_of, e1]
        · rw [r3, rs]
          by_cases z : v + 1 + (run pLe g n (p + 1) - (p + 1)) ≤ 8
          · rw [if_pos z, if_pos (by omega)]
          · rw [if_neg z, if_neg (by omega)]
        · rw [rs] at hh ⊢
          rw [r4 (by omega), show run pLe g n (p + 1) - p = (run pLe g n (p + 1) - (p + 1)) + 1 by omega]
          show vF g (run pLe g n (p + 1) - (p + 1)) (p + 1) (hL Y m 17) = vF g (run pLe g n (p + 1) - (p + 1)) (p + 1) ((32 * hL h m 17) + ((g p - 97) + 1).toInt64)
          rw [hY, e_L_sI, hX, e_sL, if_pos ⟨rfl, rfl⟩]
    · have re := run_e (P := pLe) (g := g) (n := n) (p := p) (fun hh => e hh.2)
      obtain ⟨h1, e1, S1, r1, r2, r3, r4⟩ := q_le0 (fu := fu) L h12 h13 (show v ≤ 1000 by omega) ex (by rw [f2]; exact e)
      rw [re, Nat.sub_self, Nat.add_zero]
      exact ⟨h1, e1, S1, r1, r2, r3, fun _ => r4⟩
theorem q_di0 {m p v fu : Nat} {x : Int32} {h : MHp} (L : QL m h) (h12 : hI h m 12 = Int32.ofNat p) (h13 : hI h m 13 = 0) (hv : v ≤ 1000) (ex : mX16_byteAt h m (Int32.ofNat p) = some x) (nx : ¬ pDi x = true) : ∃ h1 : MHp, mX16_next_l169 (fu + 1) h m (Int32.ofNat v) = some h1 ∧ Sn m h h1 ∧ hI h1 m 14 = hI h m 14 ∧ hI h1 m 12 = Int32.ofNat p ∧ hI h1 m 13 = (if v ≤ 4 then 3 else 0) ∧ hI h1 m 16 = hI h m 16 := by
  have base : mX16_next_l169 (fu + 1) h m (Int32.ofNat v) = if 5 ≤ Int32.ofNat v then some h else some (sI h m 13 3) := by
    rw [mX16_next_l169, b_gI, if_pos (qK0 L), h12, b_rcv, if_pos (qK0 L), ex, o_bind, q_digit, if_neg nx, o_bind, if_pos rfl, b_pI, if_pos (qK0 L)]
  by_cases e : v ≤ 4
  · refine ⟨sI h m 13 3, ?_, Sn.I 13 _ (by omega), by rw [e_sI, if_neg (by omega)], by rw [e_sI, if_neg (by omega)]; exact h12, by rw [e_Iself, if_pos e], by rw [e_sI, if_neg (by omega)]⟩
    rw [base, if_neg (by rw [show (5 : Int32) = Int32.ofNat 5 from rfl, le_of (by omega) (by omega)]; omega)]
  · refine ⟨h, ?_, Sn.rf, rfl, h12, by rw [h13, if_neg e], rfl⟩
    rw [base, if_pos (by rw [show (5 : Int32) = Int32.ofNat 5 from rfl, le_of (by omega) (by omega)]; omega)]
theorem q_di {m n : Nat} {g : Nat → Int32} (hb : ∀ k : Nat, (g k).toInt8.toInt32 = g k) : ∀ (q p v fu : Nat) (h : MHp), TSr m g n h → hI h m 12 = Int32.ofNat p → hI h m 13 = 0 → p + q = n → v + q ≤ 1000 → q < fu → ∃ h1 : MHp, mX16_next_l169 fu h m (Int32.ofNat v) = some h1 ∧ Sn m h h1 ∧ hI h1 m 14 = hI h m 14 ∧ hI h1 m 12 = Int32.ofNat (run pDi g n p) ∧ hI h1 m 13 = (if v + (run pDi g n p - p) ≤ 4 then 3 else 0) ∧ (v + (run pDi g n p - p) ≤ 4 → hI h1 m 16 = dF g (run pDi g n p - p) p (hI h m 16)) := by
  intro q
  induction q with
  | zero =>
    intro p v fu h T h12 h13 hq hv hfu
    obtain ⟨fu, rfl⟩ : ∃ g : Nat, fu = g + 1 := ⟨fu - 1, by omega⟩
    have ex := q_byte T (show p ≤ n by omega)
    rw [if_neg (by omega)] at ex
    obtain ⟨h1, e1, S1, r1, r2, r3, r4⟩ := q_di0 (fu := fu) T.1 h12 h13 (show v ≤ 1000 by omega) ex (by decide)
    rw [run_e (by omega), Nat.sub_self, Nat.add_zero]
    exact ⟨h1, e1, S1, r1, r2, r3, fun _ => r4⟩
  | succ q ih =>
    intro p v fu h T h12 h13 hq hv hfu
    obtain ⟨fu, rfl⟩ : ∃ g : Nat, fu = g + 1 := ⟨fu - 1, by omega⟩
    have n5 := T.2.2.2
    have L := T.1
    have ex := q_byte T (show p ≤ n by omega)
    rw [if_pos (by omega)] at ex
    obtain ⟨f1, f2, f3, f4, f5, f6⟩ := byt_f (hb p)
    by_cases e : pDi (g p) = true
    · rw [f6 (Or.inr (Or.inl e))] at ex
      have rs := run_s (P := pDi) (g := g) (show p < n by omega) e
      have rl := run_le (P := pDi) (g := g) (n := n) q (p + 1) (by omega)
      by_cases v8 : 4 ≤ v
      · obtain ⟨X, hX⟩ : ∃ X : MHp, X = sI h m 12 (Int32.ofNat (p + 1)) := ⟨_, rfl⟩
        have SX : Sn m h X := by rw [hX]; exact Sn.I 12 _ (by omega)
        obtain ⟨h1, e1, S1, r1, r2, r3, r4⟩ := ih (p + 1) (v + 1) fu X (SX.TSr T) (by rw [hX, e_Iself]) (by rw [hX, e_sI, if_neg (by omega)]; exact h13) (by omega) (by omega) (by omega)
        refine ⟨h1, ?_, SX.tr S1, by rw [r1, hX, e_sI, if_neg (by omega)], by rw [r2, rs], ?_, fun hh => ?_⟩
        · rw [mX16_next_l169, b_gI, if_pos (qK0 L), h12, b_rcv, if_pos (qK0 L), ex, o_bind, q_digit, if_pos e, o_bind, if_neg n10, if_pos (by rw [show (4 : Int32) = Int32.ofNat 4 from rfl, le_of (by omega) (by omega)]; exact v8), mX16_next_b211, b_gI, if_pos (qK0 L), h12, b_pI, if_pos (qK0 L), s1_of, ← hX, s1_of, e1]
        · rw [r3, rs, if_neg (by omega), if_neg (by omega)]
        · rw [rs] at hh; omega
      · obtain ⟨X, hX⟩ : ∃ X : MHp, X = sI h m 16 (((10 * hI h m 16) + g p) - 48) := ⟨_, rfl⟩
        obtain ⟨Y, hY⟩ : ∃ Y : MHp, Y = sI X m 12 (Int32.ofNat (p + 1)) := ⟨_, rfl⟩
        have SX : Sn m h X := by rw [hX]; exact Sn.I 16 _ (by omega)
        have SY : Sn m X Y := by rw [hY]; exact Sn.I 12 _ (by omega)
        have TX := SX.TSr T
        have LX := TX.1
        have x12 : hI X m 12 = Int32.ofNat p := by rw [hX, e_sI, if_neg (by omega)]; exact h12
        obtain ⟨h1, e1, S1, r1, r2, r3, r4⟩ := ih (p + 1) (v + 1) fu Y (SY.TSr TX) (by rw [hY, e_Iself]) (by rw [hY, e_sI, if_neg (by omega), hX, e_sI, if_neg (by omega)]; exact h13) (by omega) (by omega) (by omega)
        refine ⟨h1, ?_, (SX.tr SY).tr S1, by rw [r1, hY, e_sI, if_neg (by omega), hX, e_sI, if_neg (by omega)], by rw [r2, rs], ?_, fun hh => ?_⟩
        · rw [mX16_next_l169, b_gI, if_pos (qK0 L), h12, b_rcv, if_pos (qK0 L), ex, o_bind, q_digit, if_pos e, o_bind, if_neg n10, if_neg (by rw [show (4 : Int32) = Int32.ofNat 4 from rfl, le_of (by omega) (by omega)]; exact v8), b_gI, if_pos (qK0 L), b_gI, if_pos (qK0 L), h12, b_rcv, if_pos (qK0 L), ex, o_bind, b_pI, if_pos (qK0 L), ← hX, mX16_next_b211, b_gI, if_pos (qK0 LX), x12, b_pI, if_pos (qK0 LX), s1_of, ← hY, s1_of, e1]
        · rw [r3, rs]
          by_cases z : v + 1 + (run pDi g n (p + 1) - (p + 1)) ≤ 4
          · rw [if_pos z, if_pos (by omega)]
          · rw [if_neg z, if_neg (by omega)]
        · rw [rs] at hh ⊢
          rw [r4 (by omega), show run pDi g n (p + 1) - p = (run pDi g n (p + 1) - (p + 1)) + 1 by omega]
          show dF g (run pDi g n (p + 1) - (p + 1)) (p + 1) (hI Y m 16) = dF g (run pDi g n (p + 1) - (p + 1)) (p + 1) (((hI h m 16 * 10) + g p) - 48)
          rw [hY, e_sI, if_neg (by omega), hX, e_Iself, Int32.mul_comm]
    · have re := run_e (P := pDi) (g := g) (n := n) (p := p) (fun hh => e hh.2)
      obtain ⟨h1, e1, S1, r1, r2, r3, r4⟩ := q_di0 (fu := fu) L h12 h13 (show v ≤ 1000 by omega) ex (by rw [f3]; exact e)
      rw [re, Nat.sub_self, Nat.add_zero]
      exact ⟨h1, e1, S1, r1, r2, r3, fun _ => r4⟩

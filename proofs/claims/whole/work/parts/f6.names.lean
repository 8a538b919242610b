/-! the reference's words; names on both sides -/
def wfo (i : Nat) : Nat → Nat → Nat → Nat
  | 0, _, a => a
  | q + 1, k, a => wfo i q (k + 1) (32 * a + (((sxB.getD i []).getD k 0).toNatClampNeg - 96))
theorem wfo_s (i q k a : Nat) : wfo i (q + 1) k a = wfo i q (k + 1) (32 * a + (((sxB.getD i []).getD k 0).toNatClampNeg - 96)) := (rfl)
theorem wfo_all : ∀ i : Nat, i < 9 → Int64.ofNat (wfo i (sxL.getD i 0) 0 0) = rwd (wdN i) := by decide +kernel
theorem wch_all : ∀ i : Nat, i < 9 → ∀ k : Nat, k < sxL.getD i 0 → (((sxB.getD i []).getD k 0 - 97) + 1).toInt64 = Int64.ofNat (((sxB.getD i []).getD k 0).toNatClampNeg - 96) := by decide +kernel
theorem wln_all : ∀ i : Nat, i < 9 → sxL.getD i 0 ≤ 5 := by decide +kernel
theorem q_wordl {h : MHp} {i : Nat} (hi : i < 9) : ∀ (q k fu a : Nat), k + q = sxL.getD i 0 → q < fu → mX16_wordOf_l4 h fu i (Int64.ofNat a) (Int32.ofNat k) = some (Int64.ofNat (wfo i q k a)) := by
  have l5 := wln_all i hi
  have sx : sxC i = some () := by unfold sxC; rw [if_pos hi]
  intro q
  induction q with
  | zero =>
    intro k fu a hk hfu
    obtain ⟨fu, rfl⟩ : ∃ g : Nat, fu = g + 1 := ⟨fu - 1, by omega⟩
    rw [mX16_wordOf_l4, sx, o_bind, j_len h i hi, o_bind, if_pos (by rw [le_of (by omega) (by omega)]; omega)]
    rfl
  | succ q ih =>
    intro k fu a hk hfu
    obtain ⟨fu, rfl⟩ : ∃ g : Nat, fu = g + 1 := ⟨fu - 1, by omega⟩
    rw [mX16_wordOf_l4, sx, o_bind, j_len h i hi, o_bind, if_neg (by rw [le_of (by omega) (by omega)]; omega), o_bind, j_chr h i hi k (by omega), o_bind, wch_all i hi k (by omega), show (32 : Int64) = Int64.ofNat 32 from rfl, l_mul, l_add, s1_of, ih (k + 1) fu _ (by omega) (by omega), wfo_s]
theorem q_wordOf {h : MHp} {i : Nat} (hi : i < 9) : mX16_wordOf h i = some (rwd (wdN i)) := by
  have l5 := wln_all i hi
  have e := q_wordl (h := h) hi (sxL.getD i 0) 0 FUEL 0 (by omega) (by unfold FUEL; omega)
  rw [wfo_all i hi] at e
  exact e
theorem rcd_1 {k : Nat} (hk : k < 5) : (rcd k = 2) = (k = 1) := by
  have : ∀ k : Nat, k < 5 → ((rcd k = 2) ↔ (k = 1)) := by decide +kernel
  exact propext (this k hk)
theorem rcd_0 {k : Nat} (hk : k < 5) : (rcd k = 1) = (k = 0) := by
  have : ∀ k : Nat, k < 5 → ((rcd k = 1) ↔ (k = 0)) := by decide +kernel
  exact propext (this k hk)
theorem rcd_2 {k : Nat} (hk : k < 5) : (rcd k = 3) = (k = 2) := by
  have : ∀ k : Nat, k < 5 → ((rcd k = 3) ↔ (k = 2)) := by decide +kernel
  exact propext (this k hk)
theorem rcd_3 {k : Nat} (hk : k < 5) : (rcd k = 4) = (k = 3) := by
  have : ∀ k : Nat, k < 5 → ((rcd k = 4) ↔ (k = 3)) := by decide +kernel
  exact propext (this k hk)
theorem q_isWord {m n i : Nat} {g : Nat → Int32} {t : Tok} {h : MHp} (P : PR m g n t h) (G : GT g n t) (hi : i < 9) : mX16_isWord h m i = some (if isW t i = true then 1 else 0) := by
  have L := P.1.1
  have k5 := kK_5 G
  by_cases e : kK t = 1
  · have ew : (lg_cmp (rwd (kL t)) (rwd (wdN i)) = 0) = (kL t = wdN i) := by
      rw [lg0]
      exact propext ⟨fun hh => rwd_inj (tk_w G e).1 (wd_WL i hi) hh, fun hh => by rw [hh]⟩
    rw [mX16_isWord, b_gI, if_pos (qK0 L), P.2.2.2.1, if_pos (by rw [rcd_1 k5]; exact e), b_gL, if_pos (qK0 L), P.w G e, q_wordOf hi, o_bind]
    unfold isW
    rw [decide_eq_true e, Bool.true_and]
    by_cases q : kL t = wdN i
    · rw [if_pos (by rw [ew]; exact q), if_pos (decide_eq_true q)]
    · rw [if_neg (by rw [ew]; exact q), if_neg (by rw [decide_eq_false q]; decide)]
  · rw [mX16_isWord, b_gI, if_pos (qK0 L), P.2.2.2.1, if_neg (by rw [rcd_1 k5]; exact e)]
    unfold isW
    rw [decide_eq_false e, Bool.false_and, if_neg (by decide)]
theorem p_isSign {c n : Nat} {g : Nat → Int32} {t : Tok} {h : MHp} (P : PC c g n t h) (G : GT g n t) (x : Int32) : mX8_isSign h (c + 55) x = some (if kK t = 3 ∧ kV t = x then 1 else 0) := by
  have K := lK55 P.1.1
  have k5 := kK_5 G
  by_cases e : kK t = 3
  · rw [mX8_isSign, b_gI, if_pos K, P.2.2.2.1, if_pos (by rw [e]; rfl), b_gI, if_pos K, P.2.2.2.2.2.1 (Or.inr e)]
    by_cases q : kV t = x
    · rw [if_pos q, if_pos ⟨e, q⟩]
    · rw [if_neg q, if_neg (fun hh => q hh.2)]
  · rw [mX8_isSign, b_gI, if_pos K, P.2.2.2.1, if_neg (by rw [show (3 : Int32) = Int32.ofNat 3 from rfl, kd_c k5 (by omega)]; exact e), if_neg (fun hh => e hh.1)]
theorem q_is {m n : Nat} {g : Nat → Int32} {t : Tok} {h : MHp} (P : PR m g n t h) (G : GT g n t) (x : Int32) : mX16_is h m x = some (if kK t = 3 ∧ kV t = x then 1 else 0) := by
  have L := P.1.1
  have k5 := kK_5 G
  by_cases e : kK t = 3
  · rw [mX16_is, b_gI, if_pos (qK0 L), P.2.2.2.1, if_pos (by rw [rcd_3 k5]; exact e), b_gI, if_pos (qK0 L), P.2.2.2.2.2.1 e]
    by_cases q : kV t = x
    · rw [if_pos q, if_pos ⟨e, q⟩]
    · rw [if_neg q, if_neg (fun hh => q hh.2)]
  · rw [mX16_is, b_gI, if_pos (qK0 L), P.2.2.2.1, if_neg (by rw [rcd_3 k5]; exact e), if_neg (fun hh => e hh.1)]
/-- a name: a word, none of the first seven -/
def isN (t : Tok) : Bool := decide (kK t = 1) && !(isW t 0 || (isW t 1 || (isW t 2 || (isW t 3 || (isW t 4 || (isW t 5 || isW t 6))))))
theorem p_isName {c n : Nat} {g : Nat → Int32} {t : Tok} {h : MHp} (P : PC c g n t h) (G : GT g n t) : mX8_isName h (c + 55) = some (if isN t = true then 1 else 0) := by
  have K := lK55 P.1.1
  have k5 := kK_5 G
  by_cases e : kK t = 1
  · have wv : ∀ (X Y : Option Int32) (i : Nat), i < 9 → ∀ w : Int64, cwd (wdN i) = w → (if lg_cmp (cwd (kL t)) w = 0 then X else Y) = (if isW t i = true then X else Y) := fun X Y i hi w hw => by
      have ew : (lg_cmp (cwd (kL t)) w = 0) = (kL t = wdN i) := by
        rw [lg0, ← hw]
        exact propext ⟨fun hh => cwd_inj (tk_w G e).1 (wd_WL i hi) hh, fun hh => by rw [hh]⟩
      unfold isW
      rw [decide_eq_true e, Bool.true_and]
      by_cases q : kL t = wdN i
      · rw [if_pos (by rw [ew]; exact q), if_pos (decide_eq_true q)]
      · rw [if_neg (by rw [ew]; exact q), if_neg (by rw [decide_eq_false q]; decide)]
    have eL := P.w G e
    rw [mX8_isName, b_gI, if_pos K, P.2.2.2.1, if_pos (by rw [e]; rfl), b_gL, if_pos K, eL, wv _ _ 0 (by omega) _ cw0, b_gL, if_pos K, eL, wv _ _ 1 (by omega) _ cw1, b_gL, if_pos K, eL, wv _ _ 2 (by omega) _ cw2, b_gL, if_pos K, eL, wv _ _ 3 (by omega) _ cw3, b_gL, if_pos K, eL, wv _ _ 4 (by omega) _ cw4, b_gL, if_pos K, eL, wv _ _ 5 (by omega) _ cw5, b_gL, if_pos K, eL, wv _ _ 6 (by omega) _ cw6]
    unfold isN
    rw [decide_eq_true e, Bool.true_and]
    cases isW t 0 <;> cases isW t 1 <;> cases isW t 2 <;> cases isW t 3 <;> cases isW t 4 <;> cases isW t 5 <;> cases isW t 6 <;> rfl
  · rw [mX8_isName, b_gI, if_pos K, P.2.2.2.1, if_neg (by rw [show (1 : Int32) = Int32.ofNat 1 from rfl, kd_c k5 (by omega)]; exact e)]
    unfold isN
    rw [decide_eq_false e, Bool.false_and, if_neg (by decide)]
theorem q_isName {m n : Nat} {g : Nat → Int32} {t : Tok} {h : MHp} (P : PR m g n t h) (G : GT g n t) : mX16_isName h m = some (if isN t = true then 1 else 0) := by
  have L := P.1.1
  have k5 := kK_5 G
  by_cases e : kK t = 1
  · rw [mX16_isName, b_gI, if_pos (qK0 L), P.2.2.2.1, if_pos (by rw [rcd_1 k5]; exact e), b_rcv, if_pos (qK0 L), q_isWord P G (by omega), o_bind, b_rcv, if_pos (qK0 L), q_isWord P G (by omega), o_bind, b_rcv, if_pos (qK0 L), q_isWord P G (by omega), o_bind, b_rcv, if_pos (qK0 L), q_isWord P G (by omega), o_bind, b_rcv, if_pos (qK0 L), q_isWord P G (by omega), o_bind, b_rcv, if_pos (qK0 L), q_isWord P G (by omega), o_bind, b_rcv, if_pos (qK0 L), q_isWord P G (by omega), o_bind]
    unfold isN
    rw [decide_eq_true e, Bool.true_and]
    cases isW t 0 <;> cases isW t 1 <;> cases isW t 2 <;> cases isW t 3 <;> cases isW t 4 <;> cases isW t 5 <;> cases isW t 6 <;> rfl
  · rw [mX16_isName, b_gI, if_pos (qK0 L), P.2.2.2.1, if_neg (by rw [rcd_1 k5]; exact e)]
    unfold isN
    rw [decide_eq_false e, Bool.false_and, if_neg (by decide)]
/-- which field has a name -/
def fN (B : Bk) (l : List Nat) : Nat := lsf (fun f => decide (bM B f = l)) (bF B) 0
def fR (B : Bk) (l : List Nat) : Int32 := if fN B l < bF B then Int32.ofNat (fN B l) else -1
theorem p_fnl {b : Nat} {l : List Nat} {h : MHp} {B : Bk} (I : IsB h b) (c4 : hI h b 4 = Int32.ofNat (bF B)) (w6 : bF B ≤ 6) (nm : ∀ f : Nat, f < bF B → hAL h (b + 1) f = cwd (bM B f)) (wl : ∀ f : Nat, f < bF B → WL (bM B f)) (hl : WL l) : ∀ (q k fu : Nat), k + q = bF B → q < fu → mX1_fieldNamed_l2 h fu b (cwd l) (Int32.ofNat k) = some (if lsf (fun f => decide (bM B f = l)) q k < bF B then Int32.ofNat (lsf (fun f => decide (bM B f = l)) q k) else -1) := by
  obtain ⟨i1, i2, i3, i4, i5, i6, i7, i8, i9, i10, i11, i12, i13, i14⟩ := I
  intro q
  induction q with
  | zero =>
    intro k fu hk hfu
    obtain ⟨fu, rfl⟩ : ∃ g : Nat, fu = g + 1 := ⟨fu - 1, by omega⟩
    rw [mX1_fieldNamed_l2, b_gI, if_pos i1, c4, if_pos (by rw [le_of (by omega) (by omega)]; omega), lsf_0, if_neg (by omega)]
  | succ q ih =>
    intro k fu hk hfu
    obtain ⟨fu, rfl⟩ : ∃ g : Nat, fu = g + 1 := ⟨fu - 1, by omega⟩
    have bk := bad_n (k := k) (n := 6) (by omega) (by omega)
    have clk : (Int32.ofNat k).toNatClampNeg = k := cl_of (by omega)
    have ew : (lg_cmp (cwd (bM B k)) (cwd l) = 0) = (bM B k = l) := by
      rw [lg0]
      exact propext ⟨fun hh => cwd_inj (wl k (by omega)) hl hh, fun hh => by rw [hh]⟩
    rw [mX1_fieldNamed_l2, b_gI, if_pos i1, c4, if_neg (by rw [le_of (by omega) (by omega)]; omega), if_neg (by rw [show (6 : Int32) = Int32.ofNat 6 from rfl, le_of (by omega) (by omega)]; omega), b_gR, if_pos i1, i2, b_gAL, if_pos i6, i10, if_neg bk, clk, nm k (by omega), lsf_s]
    by_cases e : bM B k = l
    · rw [if_pos (by rw [ew]; exact e), if_pos (decide_eq_true e), if_pos (by omega)]
    · rw [if_neg (by rw [ew]; exact e), s1_of, ih (k + 1) fu (by omega) (by omega), decide_eq_false e, if_neg Bool.false_ne_true]
theorem p_fieldNamed {b : Nat} {l : List Nat} {h : MHp} {B : Bk} (I : IsB h b) (c4 : hI h b 4 = Int32.ofNat (bF B)) (w6 : bF B ≤ 6) (nm : ∀ f : Nat, f < bF B → hAL h (b + 1) f = cwd (bM B f)) (wl : ∀ f : Nat, f < bF B → WL (bM B f)) (hl : WL l) : mX1_fieldNamed h b (cwd l) = some (fR B l) := p_fnl I c4 w6 nm wl hl (bF B) 0 FUEL (by omega) (by unfold FUEL; omega)
theorem q_fol {b : Nat} {l : List Nat} {h : MHp} {B : Bk} (I : RIB h b) (c4 : hI h b 0 = Int32.ofNat (bF B)) (w6 : bF B ≤ 6) (nm : ∀ f : Nat, f < bF B → hAL h (b + 1) f = rwd (bM B f)) (wl : ∀ f : Nat, f < bF B → WL (bM B f)) (hl : WL l) : ∀ (q k fu : Nat), k + q = bF B → q < fu → mX12_fieldOf_l2 h fu b (rwd l) (Int32.ofNat k) = some (if lsf (fun f => decide (bM B f = l)) q k < bF B then Int32.ofNat (lsf (fun f => decide (bM B f = l)) q k) else -1) := by
  obtain ⟨i1, i2, i3, i4, i5, i6, i7, i8, i9, i10, i11, i12, i13⟩ := I
  intro q
  induction q with
  | zero =>
    intro k fu hk hfu
    obtain ⟨fu, rfl⟩ : ∃ g : Nat, fu = g + 1 := ⟨fu - 1, by omega⟩
    rw [mX12_fieldOf_l2, b_gI, if_pos i1, c4, if_pos (by rw [le_of (by omega) (by omega)]; omega), lsf_0, if_neg (by omega)]
  | succ q ih =>
    intro k fu hk hfu
    obtain ⟨fu, rfl⟩ : ∃ g : Nat, fu = g + 1 := ⟨fu - 1, by omega⟩
    have bk := bad_n (k := k) (n := 6) (by omega) (by omega)
    have clk : (Int32.ofNat k).toNatClampNeg = k := cl_of (by omega)
    have ew : (lg_cmp (rwd (bM B k)) (rwd l) = 0) = (bM B k = l) := by
      rw [lg0]
      exact propext ⟨fun hh => rwd_inj (wl k (by omega)) hl hh, fun hh => by rw [hh]⟩
    rw [mX12_fieldOf_l2, b_gI, if_pos i1, c4, if_neg (by rw [le_of (by omega) (by omega)]; omega), b_gR, if_pos i1, i2, b_gAL, if_pos i6, i10, if_neg bk, clk, nm k (by omega), lsf_s]
    by_cases e : bM B k = l
    · rw [if_pos (by rw [ew]; exact e), if_pos (decide_eq_true e), if_pos (by omega)]
    · rw [if_neg (by rw [ew]; exact e), s1_of, ih (k + 1) fu (by omega) (by omega), decide_eq_false e, if_neg Bool.false_ne_true]
theorem q_fieldOf {b : Nat} {l : List Nat} {h : MHp} {B : Bk} (I : RIB h b) (c4 : hI h b 0 = Int32.ofNat (bF B)) (w6 : bF B ≤ 6) (nm : ∀ f : Nat, f < bF B → hAL h (b + 1) f = rwd (bM B f)) (wl : ∀ f : Nat, f < bF B → WL (bM B f)) (hl : WL l) : mX12_fieldOf h b (rwd l) = some (fR B l) := q_fol I c4 w6 nm wl hl (bF B) 0 FUEL (by omega) (by unfold FUEL; omega)

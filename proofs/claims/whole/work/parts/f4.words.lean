/-! words -/
theorem cn_all : ∀ b : Nat, b < 123 → 97 ≤ b → (Int32.ofNat b).toInt64 = Int64.ofNat b ∧ ((Int32.ofNat b - 97) + 1).toInt64 = Int64.ofNat (b - 96) := by decide +kernel
theorem le_nat {x : Int32} (h : pLe x = true) : 97 ≤ x.toNatClampNeg ∧ x.toNatClampNeg ≤ 122 ∧ x = Int32.ofNat x.toNatClampNeg := by
  unfold pLe at h
  rw [Bool.and_eq_true, decide_eq_true_eq, decide_eq_true_eq] at h
  have h0 : ¬ x < 0 := fun hh => by
    have := Int32.lt_of_le_of_lt h.1 hh
    exact absurd this (by decide)
  obtain ⟨k, rfl, hk⟩ := ex_of h0
  rw [cl_of hk]
  rw [show (97 : Int32) = Int32.ofNat 97 from rfl, show (122 : Int32) = Int32.ofNat 122 from rfl, le_of (by omega) hk, le_of hk (by omega)] at h
  exact ⟨h.1, h.2, rfl⟩
theorem sh_or (a b : Nat) (hb : b < 256) : ((Int64.ofNat a) <<< ((8 : Int32).toInt64 &&& 63)) ||| Int64.ofNat b = Int64.ofNat (a * 256 + b) := by
  rw [← Int64.toBitVec_inj, Int64.toBitVec_or]
  have e1 : ((Int64.ofNat a) <<< ((8 : Int32).toInt64 &&& 63)).toBitVec = (Int64.ofNat a).toBitVec <<< 8 := by
    show (Int64.ofNat a).toBitVec <<< (((8 : Int32).toInt64 &&& 63).toBitVec.smod 64) = _
    rfl
  rw [e1]
  show (BitVec.ofNat 64 a <<< 8) ||| BitVec.ofNat 64 b = BitVec.ofNat 64 (a * 256 + b)
  rw [← BitVec.add_eq_or_of_and_eq_zero]
  · apply BitVec.eq_of_toNat_eq
    rw [BitVec.toNat_add, BitVec.toNat_shiftLeft, BitVec.toNat_ofNat, BitVec.toNat_ofNat, BitVec.toNat_ofNat, Nat.shiftLeft_eq]
    omega
  · apply BitVec.eq_of_getLsbD_eq
    intro i hi
    rw [BitVec.getLsbD_and, BitVec.getLsbD_zero, BitVec.getLsbD_shiftLeft, BitVec.getLsbD_ofNat, BitVec.getLsbD_ofNat]
    by_cases h : i < 8
    · simp [h]
    · have : b.testBit i = false := Nat.testBit_lt_two_pow (Nat.lt_of_lt_of_le hb (Nat.pow_le_pow_right (show 2 > 0 by omega) (show 8 ≤ i by omega)))
      rw [this, Bool.and_false, Bool.and_false]
theorem lts_s (g : Nat → Int32) (q s : Nat) : lts g (q + 1) s = (g s).toNatClampNeg :: lts g q (s + 1) := (rfl)
theorem wF_c {g : Nat → Int32} : ∀ (q s a : Nat), (∀ k : Nat, s ≤ k → k < s + q → pLe (g k) = true) → wF g q s (Int64.ofNat a) = Int64.ofNat ((lts g q s).foldl (fun w b => w * 256 + b) a)
  | 0, s, a, _ => rfl
  | q + 1, s, a, h => by
    obtain ⟨b1, b2, b3⟩ := le_nat (h s (Nat.le_refl _) (by omega))
    rw [lts_s, List.foldl_cons, ← wF_c q (s + 1) _ (fun k h1 h2 => h k (by omega) (by omega))]
    show wF g q (s + 1) (((Int64.ofNat a) <<< ((8 : Int32).toInt64 &&& 63)) ||| (g s).toInt64) = _
    rw [b3, (cn_all _ (by omega) b1).1, sh_or _ _ (by omega), cl_of (by omega)]
theorem vF_c {g : Nat → Int32} : ∀ (q s a : Nat), (∀ k : Nat, s ≤ k → k < s + q → pLe (g k) = true) → vF g q s (Int64.ofNat a) = Int64.ofNat ((lts g q s).foldl (fun w b => 32 * w + (b - 96)) a)
  | 0, s, a, _ => rfl
  | q + 1, s, a, h => by
    obtain ⟨b1, b2, b3⟩ := le_nat (h s (Nat.le_refl _) (by omega))
    rw [lts_s, List.foldl_cons, ← vF_c q (s + 1) _ (fun k h1 h2 => h k (by omega) (by omega))]
    show vF g q (s + 1) ((32 * (Int64.ofNat a)) + ((g s - 97) + 1).toInt64) = _
    rw [b3, (cn_all _ (by omega) b1).2, show (32 : Int64) = Int64.ofNat 32 from rfl, l_mul, l_add, cl_of (by omega)]
/-- of a word's letters -/
theorem lts_len (g : Nat → Int32) : ∀ q s : Nat, (lts g q s).length = q
  | 0, _ => rfl
  | q + 1, s => by rw [lts_s, List.length_cons, lts_len g q (s + 1)]
theorem lts_mem {g : Nat → Int32} : ∀ (q s : Nat), (∀ k : Nat, s ≤ k → k < s + q → pLe (g k) = true) → ∀ b : Nat, b ∈ lts g q s → 97 ≤ b ∧ b ≤ 122
  | 0, _, _, b, hb => by cases hb
  | q + 1, s, h, b, hb => by
    rw [lts_s] at hb
    rcases List.mem_cons.mp hb with e | e
    · obtain ⟨b1, b2, -⟩ := le_nat (h s (Nat.le_refl _) (by omega))
      rw [e]; exact ⟨b1, b2⟩
    · exact lts_mem q (s + 1) (fun k h1 h2 => h k (by omega) (by omega)) b e
/-- a token that was read -/
def GT (g : Nat → Int32) (n : Nat) (t : Tok) : Prop := ∃ p : Nat, p ≤ n ∧ t = tokAt g n p
theorem tk_w {g : Nat → Int32} {n : Nat} {t : Tok} (G : GT g n t) (h : kK t = 1) : WL (kL t) ∧ kL t = lts g (kE t - kS t) (kS t) ∧ ∀ k : Nat, kS t ≤ k → k < kS t + (kE t - kS t) → pLe (g k) = true := by
  obtain ⟨p, hp, rfl⟩ := G
  obtain ⟨s, hs⟩ : ∃ s : Nat, s = run pSp g n p := ⟨_, rfl⟩
  have sb := run_b (P := pSp) (g := g) hp
  rw [← hs] at sb
  have et : tokAt g n p = tkOf g n s := by unfold tokAt; rw [← hs]
  rw [et] at h ⊢
  unfold tkOf at h ⊢
  by_cases L0 : s < run pLe g n s
  · rw [if_pos L0] at h ⊢
    by_cases L8 : run pLe g n s - s ≤ 8
    · rw [if_pos L8] at h ⊢
      have li : ∀ k : Nat, s ≤ k → k < s + (run pLe g n s - s) → pLe (g k) = true := fun k h1 h2 => run_in (n := n) (n - s) s (by omega) k h1 (by omega)
      refine ⟨⟨?_, ?_, ?_⟩, rfl, li⟩
      · show 1 ≤ (lts g (run pLe g n s - s) s).length
        rw [lts_len]; omega
      · show (lts g (run pLe g n s - s) s).length ≤ 8
        rw [lts_len]; exact L8
      · exact lts_mem _ _ li
    · rw [if_neg L8] at h
      exact absurd (show (4 : Nat) = 1 from h) (by decide)
  · rw [if_neg L0] at h
    by_cases D0 : s < run pDi g n s
    · rw [if_pos D0] at h
      by_cases D4 : run pDi g n s - s ≤ 4
      · rw [if_pos D4] at h; exact absurd (show (2 : Nat) = 1 from h) (by decide)
      · rw [if_neg D4] at h; exact absurd (show (4 : Nat) = 1 from h) (by decide)
    · rw [if_neg D0] at h
      by_cases z : s < n
      · rw [if_pos z] at h
        by_cases q : pSg (g s) = true
        · rw [if_pos q] at h; exact absurd (show (3 : Nat) = 1 from h) (by decide)
        · rw [if_neg q] at h; exact absurd (show (4 : Nat) = 1 from h) (by decide)
      · rw [if_neg z] at h; exact absurd (show (0 : Nat) = 1 from h) (by decide)
theorem PC.w {c n : Nat} {g : Nat → Int32} {t : Tok} {h : MHp} (P : PC c g n t h) (G : GT g n t) (k : kK t = 1) : hL h (c + 55) 7 = cwd (kL t) := by
  obtain ⟨-, e, li⟩ := tk_w G k
  rw [P.2.2.2.2.2.2 k, e]
  exact wF_c _ _ 0 li
theorem PR.w {m n : Nat} {g : Nat → Int32} {t : Tok} {h : MHp} (P : PR m g n t h) (G : GT g n t) (k : kK t = 1) : hL h m 17 = rwd (kL t) := by
  obtain ⟨-, e, li⟩ := tk_w G k
  rw [P.2.2.2.2.2.2.2 k, e]
  exact vF_c _ _ 0 li
/-- words of different letters are different numbers -/
theorem fr_inj (K d : Nat) (hK : 0 < K) (dg : Nat → Nat) (hd : ∀ b : Nat, 97 ≤ b → b ≤ 122 → 1 ≤ dg b ∧ dg b < K ∧ dg b = b - d) (hd2 : d ≤ 97) : ∀ l l' : List Nat, (∀ b : Nat, b ∈ l → 97 ≤ b ∧ b ≤ 122) → (∀ b : Nat, b ∈ l' → 97 ≤ b ∧ b ≤ 122) → l.foldr (fun b w => w * K + dg b) 0 = l'.foldr (fun b w => w * K + dg b) 0 → l = l'
  | [], [], _, _, _ => rfl
  | [], b :: t, _, h2, e => by
    have := hd b (h2 b (List.mem_cons_self ..)).1 (h2 b (List.mem_cons_self ..)).2
    rw [List.foldr_cons] at e
    simp only [List.foldr_nil] at e
    omega
  | b :: t, [], h1, _, e => by
    have := hd b (h1 b (List.mem_cons_self ..)).1 (h1 b (List.mem_cons_self ..)).2
    rw [List.foldr_cons] at e
    simp only [List.foldr_nil] at e
    omega
  | b :: t, b' :: t', h1, h2, e => by
    have m1 := h1 b (List.mem_cons_self ..)
    have m2 := h2 b' (List.mem_cons_self ..)
    have d1 := hd b m1.1 m1.2
    have d2 := hd b' m2.1 m2.2
    rw [List.foldr_cons, List.foldr_cons] at e
    obtain ⟨e1, e2⟩ := cell_inj d1.2.1 d2.2.1 e
    rw [fr_inj K d hK dg hd hd2 t t' (fun x hx => h1 x (List.mem_cons_of_mem _ hx)) (fun x hx => h2 x (List.mem_cons_of_mem _ hx)) e1, show b = b' by omega]
theorem fr_lt (K : Nat) (dg : Nat → Nat) : ∀ l : List Nat, (∀ b : Nat, b ∈ l → dg b < K) → l.foldr (fun b w => w * K + dg b) 0 < K ^ l.length
  | [], _ => by show 0 < 1; omega
  | b :: t, h => by
    have ih := fr_lt K dg t (fun x hx => h x (List.mem_cons_of_mem _ hx))
    have hb := h b (List.mem_cons_self ..)
    rw [List.foldr_cons, List.length_cons, Nat.pow_succ]
    have : (t.foldr (fun b w => w * K + dg b) 0 + 1) * K ≤ K ^ t.length * K := Nat.mul_le_mul_right _ ih
    rw [Nat.add_mul, Nat.one_mul] at this
    omega
theorem i64_inj {a b : Nat} (ha : a < 2 ^ 64) (hb : b < 2 ^ 64) (e : Int64.ofNat a = Int64.ofNat b) : a = b := by
  rw [← Int64.toBitVec_inj] at e
  have e : BitVec.ofNat 64 a = BitVec.ofNat 64 b := e
  have := congrArg BitVec.toNat e
  rw [BitVec.toNat_ofNat, BitVec.toNat_ofNat, Nat.mod_eq_of_lt ha, Nat.mod_eq_of_lt hb] at this
  exact this
theorem cwd_inj {l l' : List Nat} (h : WL l) (h' : WL l') (e : cwd l = cwd l') : l = l' := by
  unfold cwd at e
  rw [List.foldl_eq_foldr_reverse, List.foldl_eq_foldr_reverse] at e
  have b1 := fr_lt 256 (fun b => b) l.reverse (fun b hb => by have := h.2.2 b (List.mem_reverse.mp hb); omega)
  have b2 := fr_lt 256 (fun b => b) l'.reverse (fun b hb => by have := h'.2.2 b (List.mem_reverse.mp hb); omega)
  have p1 : 256 ^ l.reverse.length ≤ 2 ^ 64 := by
    rw [List.length_reverse]
    exact Nat.le_trans (Nat.pow_le_pow_right (by omega) h.2.1) (by decide)
  have p2 : 256 ^ l'.reverse.length ≤ 2 ^ 64 := by
    rw [List.length_reverse]
    exact Nat.le_trans (Nat.pow_le_pow_right (by omega) h'.2.1) (by decide)
  have e2 := i64_inj (Nat.lt_of_lt_of_le b1 p1) (Nat.lt_of_lt_of_le b2 p2) e
  have e3 := fr_inj 256 0 (by omega) (fun b => b) (fun b x y => ⟨by omega, by omega, by omega⟩) (by omega) l.reverse l'.reverse (fun b hb => h.2.2 b (List.mem_reverse.mp hb)) (fun b hb => h'.2.2 b (List.mem_reverse.mp hb)) e2
  rw [← List.reverse_reverse (as := l), e3, List.reverse_reverse]
theorem rwd_inj {l l' : List Nat} (h : WL l) (h' : WL l') (e : rwd l = rwd l') : l = l' := by
  unfold rwd at e
  have sw : ∀ l : List Nat, l.foldl (fun w b => 32 * w + (b - 96)) 0 = l.reverse.foldr (fun b w => w * 32 + (b - 96)) 0 := fun l => by
    rw [List.foldl_eq_foldr_reverse]
    congr 1
    funext b w
    rw [Nat.mul_comm]
  rw [sw, sw] at e
  have b1 := fr_lt 32 (fun b => b - 96) l.reverse (fun b hb => by have := h.2.2 b (List.mem_reverse.mp hb); show b - 96 < 32; omega)
  have b2 := fr_lt 32 (fun b => b - 96) l'.reverse (fun b hb => by have := h'.2.2 b (List.mem_reverse.mp hb); show b - 96 < 32; omega)
  have p1 : 32 ^ l.reverse.length ≤ 2 ^ 64 := by
    rw [List.length_reverse]
    exact Nat.le_trans (Nat.pow_le_pow_right (by omega) h.2.1) (by decide)
  have p2 : 32 ^ l'.reverse.length ≤ 2 ^ 64 := by
    rw [List.length_reverse]
    exact Nat.le_trans (Nat.pow_le_pow_right (by omega) h'.2.1) (by decide)
  have e2 := i64_inj (Nat.lt_of_lt_of_le b1 p1) (Nat.lt_of_lt_of_le b2 p2) e
  have e3 := fr_inj 32 96 (by omega) (fun b => b - 96) (fun b x y => ⟨by show 1 ≤ b - 96; omega, by show b - 96 < 32; omega, rfl⟩) (by omega) l.reverse l'.reverse (fun b hb => h.2.2 b (List.mem_reverse.mp hb)) (fun b hb => h'.2.2 b (List.mem_reverse.mp hb)) e2
  rw [← List.reverse_reverse (as := l), e3, List.reverse_reverse]

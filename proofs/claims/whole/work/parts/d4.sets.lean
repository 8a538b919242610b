/-! sets that mend: theory -/
def bits6 (p : Nat → Bool) : Nat → Nat
  | 0 => 0
  | n + 1 => bits6 p n + (if p n = true then 2 ^ n else 0)
theorem bits6_s (p : Nat → Bool) (n : Nat) : bits6 p (n + 1) = bits6 p n + (if p n = true then 2 ^ n else 0) := (rfl)
theorem bits6_congr {p q : Nat → Bool} : ∀ n : Nat, (∀ j : Nat, j < n → p j = q j) → bits6 p n = bits6 q n
  | 0, _ => rfl
  | n + 1, h => by rw [bits6_s, bits6_s, h n (by omega), bits6_congr n (fun j hj => h j (by omega))]
theorem bits6_lt (p : Nat → Bool) : ∀ n : Nat, bits6 p n < 2 ^ n
  | 0 => Nat.one_pos
  | n + 1 => by
    have := bits6_lt p n
    rw [bits6_s, Nat.pow_succ]
    by_cases g : p n = true
    · rw [if_pos g]; omega
    · rw [if_neg g]; omega
theorem ms_all : ∀ b0 b1 b2 b3 b4 b5 : Bool, ∀ n : Fin 7, ms (bl6 b0 b1 b2 b3 b4 b5) n.val 0 0 = Int32.ofNat (bits6 (bl6 b0 b1 b2 b3 b4 b5) n.val) := by decide +kernel
theorem bits_all : ∀ b0 b1 b2 b3 b4 b5 : Bool, ∀ n : Fin 7, ∀ j : Fin 6, j.val < n.val → (bits6 (bl6 b0 b1 b2 b3 b4 b5) n.val).testBit j.val = bl6 b0 b1 b2 b3 b4 b5 j.val := by decide +kernel
theorem free_all : ∀ b0 b1 b2 b3 b4 b5 : Bool, ∀ n : Fin 7, (Int32.ofNat (2 ^ n.val - 1) &&& (Int32.ofNat (bits6 (bl6 b0 b1 b2 b3 b4 b5) n.val) ^^^ (-1))) = Int32.ofNat (bits6 (fun j => !(bl6 b0 b1 b2 b3 b4 b5 j)) n.val) := by decide +kernel
theorem ms_N (p : Nat → Bool) {n : Nat} (hn : n ≤ 6) : ms p n 0 0 = Int32.ofNat (bits6 p n) := by
  rw [ms_congr (q := bl6 (p 0) (p 1) (p 2) (p 3) (p 4) (p 5)) n 0 0 (fun j _ hj => bl6_p p (by omega)), bits6_congr (q := bl6 (p 0) (p 1) (p 2) (p 3) (p 4) (p 5)) n (fun j hj => bl6_p p (by omega))]
  exact ms_all _ _ _ _ _ _ ⟨n, by omega⟩
theorem free_N (p : Nat → Bool) {n : Nat} (hn : n ≤ 6) : (Int32.ofNat (2 ^ n - 1) &&& (Int32.ofNat (bits6 p n) ^^^ (-1))) = Int32.ofNat (bits6 (fun j => !(p j)) n) := by
  rw [bits6_congr (q := bl6 (p 0) (p 1) (p 2) (p 3) (p 4) (p 5)) n (fun j hj => bl6_p p (by omega)), bits6_congr (p := fun j => !(p j)) (q := fun j => !(bl6 (p 0) (p 1) (p 2) (p 3) (p 4) (p 5) j)) n (fun j hj => by rw [bl6_p p (j := j) (by omega)])]
  exact free_all _ _ _ _ _ _ ⟨n, by omega⟩
theorem bits6_t (p : Nat → Bool) {n : Nat} (hn : n ≤ 6) (j : Nat) : (bits6 p n).testBit j = (decide (j < n) && p j) := by
  by_cases h : j < n
  · rw [decide_eq_true h, Bool.true_and, bits6_congr (q := bl6 (p 0) (p 1) (p 2) (p 3) (p 4) (p 5)) n (fun j hj => bl6_p p (by omega)), bl6_p p (j := j) (by omega)]
    exact bits_all _ _ _ _ _ _ ⟨n, by omega⟩ ⟨j, by omega⟩ h
  · rw [decide_eq_false h, Bool.false_and]
    exact Nat.testBit_lt_two_pow (Nat.lt_of_lt_of_le (bits6_lt p n) (Nat.pow_le_pow_right (by omega) (by omega)))
theorem shl_N {n : Nat} (hn : n ≤ 6) : ((1 : Int32) <<< (Int32.ofNat n &&& 31)) = Int32.ofNat (2 ^ n) := by
  have : ∀ n : Fin 7, ((1 : Int32) <<< (Int32.ofNat n.val &&& 31)) = Int32.ofNat (2 ^ n.val) := by decide +kernel
  exact this ⟨n, by omega⟩
theorem all_N {n : Nat} (hn : n ≤ 6) : ((1 : Int32) <<< (Int32.ofNat n &&& 31)) - 1 = Int32.ofNat (2 ^ n - 1) := by
  have : ∀ n : Fin 7, ((1 : Int32) <<< (Int32.ofNat n.val &&& 31)) - 1 = Int32.ofNat (2 ^ n.val - 1) := by decide +kernel
  exact this ⟨n, by omega⟩
theorem p2_64 {n : Nat} (hn : n ≤ 6) : 2 ^ n ≤ 64 := Nat.pow_le_pow_right (show 2 > 0 by omega) hn
theorem sub_all : ∀ S : Nat, S < 64 → ∀ F : Nat, F < 64 → ((Int32.ofNat S &&& (Int32.ofNat F ^^^ (-1))) = 0 ↔ S &&& F = S) := by decide +kernel
def rv6 (S : Nat) : Nat := 32 * (S % 2) + 16 * (S / 2 % 2) + 8 * (S / 4 % 2) + 4 * (S / 8 % 2) + 2 * (S / 16 % 2) + S / 32 % 2
theorem rv_le (S : Nat) : rv6 S ≤ 63 := by unfold rv6; omega
theorem rv_rv : ∀ S : Nat, S < 64 → rv6 (rv6 S) = S := by decide +kernel
theorem rv_all : ∀ S : Nat, S < 64 → ∀ T : Nat, T < 64 → (((Int32.ofNat S &&& (Int32.ofNat S ^^^ Int32.ofNat T)) &&& (-(Int32.ofNat S ^^^ Int32.ofNat T))) = 0 ↔ rv6 S ≤ rv6 T) := by decide +kernel
/-- what a set costs -/
def cS (B : Bk) (S : Nat) : Nat → Nat
  | 0 => 0
  | f + 1 => cS B S f + (if S.testBit f = true then bC B f else 0)
theorem cS_s (B : Bk) (S f : Nat) : cS B S (f + 1) = cS B S f + (if S.testBit f = true then bC B f else 0) := (rfl)
theorem cS_le {B : Bk} {S : Nat} : ∀ n : Nat, (∀ f : Nat, f < n → bC B f ≤ 9) → cS B S n ≤ 9 * n
  | 0, _ => Nat.le_refl _
  | n + 1, h => by
    have := cS_le (S := S) n (fun f hf => h f (by omega))
    have := h n (by omega)
    rw [cS_s]
    by_cases g : S.testBit n = true
    · rw [if_pos g]; omega
    · rw [if_neg g]; omega
theorem cS_sub {B : Bk} {S T : Nat} (h : ∀ j : Nat, T.testBit j = true → S.testBit j = true) : ∀ n : Nat, cS B T n ≤ cS B S n
  | 0 => Nat.le_refl _
  | n + 1 => by
    have := cS_sub (B := B) h n
    rw [cS_s, cS_s]
    by_cases g : T.testBit n = true
    · rw [if_pos g, if_pos (h n g)]; omega
    · rw [if_neg g]; omega
theorem cS_lt {B : Bk} {S T g : Nat} (h : ∀ j : Nat, T.testBit j = true → S.testBit j = true) (h1 : S.testBit g = true) (h2 : ¬ T.testBit g = true) : ∀ n : Nat, g < n → (∀ f : Nat, f < n → 1 ≤ bC B f) → cS B T n < cS B S n
  | 0, hg, _ => by omega
  | n + 1, hg, hc => by
    rw [cS_s, cS_s]
    by_cases e : g = n
    · subst e
      have := cS_sub (B := B) h g
      have := hc g (by omega)
      rw [if_neg h2, if_pos h1]; omega
    · have := cS_lt h h1 h2 n (by omega) (fun f hf => hc f (by omega))
      by_cases g : T.testBit n = true
      · rw [if_pos g, if_pos (h n g)]; omega
      · rw [if_neg g]; omega
/-- the order of sets as one number -/
def kM (B : Bk) (S : Nat) : Nat := cS B S (bF B) * 4096 + sumB 12 S * 64 + (63 - rv6 S)
theorem kM_lt {B : Bk} (S T : Nat) : kM B S < kM B T ↔ cS B S (bF B) < cS B T (bF B) ∨ cS B S (bF B) = cS B T (bF B) ∧ (sumB 12 S < sumB 12 T ∨ sumB 12 S = sumB 12 T ∧ ¬ rv6 S ≤ rv6 T) := by
  have h1 := sumB_le 12 S
  have h2 := sumB_le 12 T
  have h3 := rv_le S
  have h4 := rv_le T
  unfold kM
  omega
theorem kM_inj {B : Bk} {S T : Nat} (hS : S < 64) (hT : T < 64) (e : kM B S = kM B T) : S = T := by
  have h1 := sumB_le 12 S
  have h2 := sumB_le 12 T
  have h3 := rv_le S
  have h4 := rv_le T
  unfold kM at e
  have : rv6 S = rv6 T := by omega
  rw [← rv_rv S hS, this, rv_rv T hT]
/-- a set that can mend -/
def Mn (B : Bk) (x : Nat → Int32) (S : Nat) : Prop := ∃ v : Nat → Nat, GoodV B x S v
def IsMin (B : Bk) (x : Nat → Int32) (M : Nat) : Prop := 1 ≤ M ∧ M < 2 ^ bF B ∧ Mn B x M ∧ ∀ T : Nat, 1 ≤ T → T < 2 ^ bF B → Mn B x T → kM B M ≤ kM B T
theorem IsMin.un {B : Bk} (W : WB B) {x : Nat → Int32} {M N : Nat} (h1 : IsMin B x M) (h2 : IsMin B x N) : M = N := by
  have p := p2_64 W.1
  exact kM_inj (B := B) (by have := h1.2.1; omega) (by have := h2.2.1; omega) (Nat.le_antisymm (h1.2.2.2 N h2.1 h2.2.1 h2.2.2.1) (h2.2.2.2 M h1.1 h1.2.1 h1.2.2.1))
theorem mixW_x {S n : Nat} {x y : Nat → Int32} {v : Nat → Nat} (h : ∀ f : Nat, f < n → x f = y f) (f : Nat) (hf : f < n) : mixW S x v f = mixW S y v f := by
  unfold mixW
  by_cases s : S.testBit f = true
  · rw [if_pos s, if_pos s]
  · rw [if_neg s, if_neg s, h f hf]
theorem GoodV.x {B : Bk} (W : WB B) {S : Nat} {x y : Nat → Int32} {v : Nat → Nat} (h : ∀ f : Nat, f < bF B → x f = y f) (g : GoodV B x S v) : GoodV B y S v :=
  ⟨g.1, by rw [← bB_congr W (mixW_x h)]; exact g.2⟩
theorem MinV.x {B : Bk} (W : WB B) {S : Nat} {x y : Nat → Int32} {v : Nat → Nat} (h : ∀ f : Nat, f < bF B → x f = y f) (g : MinV B x S v) : MinV B y S v :=
  ⟨g.1.x W h, fun w hw => g.2 w (hw.x W (fun f hf => (h f hf).symm))⟩
theorem Mn.x {B : Bk} (W : WB B) {S : Nat} {x y : Nat → Int32} (h : ∀ f : Nat, f < bF B → x f = y f) (g : Mn B x S) : Mn B y S := by
  obtain ⟨v, hv⟩ := g
  exact ⟨v, hv.x W h⟩
theorem IsMin.x {B : Bk} (W : WB B) {M : Nat} {x y : Nat → Int32} (h : ∀ f : Nat, f < bF B → x f = y f) (g : IsMin B x M) : IsMin B y M :=
  ⟨g.1, g.2.1, g.2.2.1.x W h, fun T h1 h2 h3 => g.2.2.2 T h1 h2 (h3.x W (fun f hf => (h f hf).symm))⟩
theorem tO_n {a b s : Int32} (h : tO a b s = true) : a ≠ -1 ∧ b ≠ -1 := by
  unfold tO at h
  rw [Bool.and_eq_true, Bool.and_eq_true, decide_eq_true_eq, decide_eq_true_eq] at h
  exact h.2
/-- a gap lets no ONE hold -/
theorem tH_gap {nf : Nat} {t : Ts} (W : WT nf t) (hnf : nf ≤ 6) {x y : Nat → Int32} (h : ∀ f : Nat, f < nf → y f = x f ∨ y f = -1) (e : tH t y = true) : tH t x = true := by
  unfold tH at *
  rw [allF_iff] at *
  intro j h1 h2
  have p := e j h1 h2
  obtain ⟨w1, w2⟩ := W.2 j (by omega)
  have n := tO_n p
  have e1 : x (tF t j) = y (tF t j) := by
    rcases h _ w1 with q | q
    · exact q.symm
    · exact absurd q n.1
  have e2 : tA x (tR t j) = tA y (tR t j) := by
    have n2 := n.2
    unfold tA at *
    by_cases r : tR t j < 0
    · rw [if_pos r] at n2
      rw [if_pos r, if_pos r]
      obtain ⟨g, hg, eg⟩ := w2 r
      rw [eg, m1_of, cl_of (by omega)] at n2 ⊢
      rcases h g hg with q | q
      · exact q.symm
      · exact absurd q n2
    · rw [if_neg r, if_neg r]
  show tO (x (tF t j)) (tA x (tR t j)) (tS t j) = true
  rw [e1, e2]
  exact p
/-- the fields with no gap -/
def frN (B : Bk) (x : Nat → Int32) : Nat := bits6 (fun j => !(gp x j)) (bF B)
theorem frN_t {B : Bk} (W : WB B) (x : Nat → Int32) (j : Nat) : (frN B x).testBit j = (decide (j < bF B) && !(gp x j)) := bits6_t _ W.1 j
theorem Mn.cut {B : Bk} (W : WB B) {x : Nat → Int32} {S : Nat} (h : Mn B x S) : Mn B x (S &&& frN B x) := by
  obtain ⟨v, h1, h2⟩ := h
  refine ⟨v, fun f hf hs => h1 f hf ?_, bB_all.mpr (fun k hk => ?_)⟩
  · rw [Nat.testBit_and, Bool.and_eq_true] at hs
    exact hs.1
  · cases e : tH (bR B k) (mixW (S &&& frN B x) x v) with
    | false => rfl
    | true =>
      have := tH_gap (W.2.2.2 k hk) W.1 (x := mixW S x v) (fun f hf => by
        unfold mixW
        rw [Nat.testBit_and, frN_t W, decide_eq_true hf, Bool.true_and]
        by_cases s : S.testBit f = true
        · rw [s, Bool.true_and, if_pos rfl]
          by_cases g : gp x f = true
          · right
            rw [g, if_neg (by decide)]
            exact of_decide_eq_true g
          · left
            have g' : gp x f = false := by simpa using g
            rw [g', if_pos (by decide)]
        · left
          have s' : S.testBit f = false := by simpa using s
          rw [s', Bool.false_and, if_neg (by decide)]) e
      rw [bB_all.mp h2 k hk] at this
      cases this
def okX (B : Bk) (x : Nat → Int32) : Prop := ∀ f : Nat, f < bF B → x f = -1 ∨ ∃ u : Nat, u ≤ bT B f ∧ x f = Int32.ofNat u
theorem Mn.ext {B : Bk} (W : WB B) {x : Nat → Int32} {S : Nat} (ok : okX B x) (hS : ∀ j : Nat, S.testBit j = true → (frN B x).testBit j = true) (h : Mn B x S) : Mn B x (frN B x) := by
  obtain ⟨v, h1, h2⟩ := h
  have key : ∀ f : Nat, f < bF B → (frN B x).testBit f = true → ¬ S.testBit f = true → (x f).toNatClampNeg ≤ bT B f ∧ Int32.ofNat (x f).toNatClampNeg = x f := fun f hf hs _ => by
    rw [frN_t W, decide_eq_true hf, Bool.true_and, Bool.not_eq_true'] at hs
    have t9 := (W.2.2.1 f hf).2.1
    rcases ok f hf with e | ⟨u, hu, e⟩
    · unfold gp at hs
      rw [e] at hs
      exact absurd hs (by decide)
    · rw [e, cl_of (by omega)]
      exact ⟨hu, rfl⟩
  refine ⟨fun f => if S.testBit f = true then v f else (x f).toNatClampNeg, fun f hf hs => ?_, ?_⟩
  · show (if S.testBit f = true then v f else (x f).toNatClampNeg) ≤ _
    by_cases s : S.testBit f = true
    · rw [if_pos s]; exact h1 f hf s
    · rw [if_neg s]; exact (key f hf hs s).1
  · rw [bB_congr W (y := mixW S x v)]
    · exact h2
    · intro f hf
      show (if (frN B x).testBit f = true then Int32.ofNat (if S.testBit f = true then v f else (x f).toNatClampNeg) else x f) = (if S.testBit f = true then Int32.ofNat (v f) else x f)
      by_cases s : S.testBit f = true
      · rw [if_pos (hS f s), if_pos s, if_pos s]
      · rw [if_neg s, if_neg s]
        by_cases s2 : (frN B x).testBit f = true
        · rw [if_pos s2]; exact (key f hf s2 s).2
        · rw [if_neg s2]
theorem Mn.ne {B : Bk} {x : Nat → Int32} {S : Nat} (hb : bB B x < bN B) (h : Mn B x S) : 1 ≤ S := by
  apply Nat.pos_of_ne_zero
  intro e
  subst e
  obtain ⟨v, h1, h2⟩ := h
  have : mixW 0 x v = x := by
    funext f
    unfold mixW
    rw [Nat.zero_testBit, if_neg (by decide)]
  rw [this] at h2
  omega
theorem cut_eq {S F : Nat} (h : ∀ j : Nat, S.testBit j = true → F.testBit j = true) : S &&& F = S := by
  apply Nat.eq_of_testBit_eq
  intro j
  rw [Nat.testBit_and]
  cases e : S.testBit j with
  | false => rfl
  | true => rw [h j e]; rfl
theorem cut_sub {S F : Nat} (h : S &&& F = S) (j : Nat) (hj : S.testBit j = true) : F.testBit j = true := by
  rw [← h, Nat.testBit_and, Bool.and_eq_true] at hj
  exact hj.2
theorem bit_lt {S n : Nat} (h : S < 2 ^ n) (j : Nat) (hj : S.testBit j = true) : j < n := by
  apply Nat.lt_of_not_le
  intro hle
  have := Nat.testBit_lt_two_pow (Nat.lt_of_lt_of_le h (Nat.pow_le_pow_right (show 2 > 0 by omega) hle))
  rw [this] at hj
  cases hj
theorem cut_lt {B : Bk} (W : WB B) {S F : Nat} (hS : S < 2 ^ bF B) : S &&& F = S ∨ kM B (S &&& F) < kM B S := by
  by_cases e : S &&& F = S
  · exact Or.inl e
  · right
    have : ∃ j : Nat, S.testBit j = true ∧ ¬ F.testBit j = true := by
      apply Classical.byContradiction
      intro hn
      apply e
      apply cut_eq
      intro j hj
      apply Classical.byContradiction
      intro h2
      exact hn ⟨j, hj, h2⟩
    obtain ⟨j, j1, j2⟩ := this
    have := cS_lt (B := B) (S := S) (T := S &&& F) (g := j) (fun i hi => by
      rw [Nat.testBit_and, Bool.and_eq_true] at hi; exact hi.1) j1 (fun hi => by
      rw [Nat.testBit_and, Bool.and_eq_true] at hi; exact j2 hi.2) (bF B) (bit_lt hS j j1) (fun f hf => (W.2.2.1 f hf).2.2.1)
    rw [kM_lt]
    exact Or.inl this
/-- the least has no gap -/
theorem IsMin.fr {B : Bk} (W : WB B) {x : Nat → Int32} (hb : bB B x < bN B) {M : Nat} (h : IsMin B x M) : M &&& frN B x = M := by
  rcases cut_lt W (F := frN B x) h.2.1 with e | e
  · exact e
  · have c := h.2.2.1.cut W
    have := h.2.2.2 _ (c.ne hb) (Nat.lt_of_le_of_lt Nat.and_le_left h.2.1) c
    omega

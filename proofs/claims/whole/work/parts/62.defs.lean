/-! what the office holds, as numbers and functions -/
theorem ti_of {k : Nat} (h : k < 2147483648) : (Int32.ofNat k).toInt = (k : Int) := Int32.toInt_ofNat_of_lt h
def allF (P : Nat → Bool) : Nat → Nat → Bool
  | 0, _ => true
  | m + 1, k => P k && allF P m (k + 1)
theorem allF_0 (P : Nat → Bool) (k : Nat) : allF P 0 k = true := (rfl)
theorem allF_s (P : Nat → Bool) (m k : Nat) : allF P (m + 1) k = (P k && allF P m (k + 1)) := (rfl)
theorem allF_iff (P : Nat → Bool) : ∀ m k : Nat, allF P m k = true ↔ ∀ j, k ≤ j → j < k + m → P j = true
  | 0, k => by simp only [allF, true_iff]; intro j h1 h2; omega
  | m + 1, k => by
    simp only [allF, Bool.and_eq_true, allF_iff P m (k + 1)]
    constructor
    · rintro ⟨h1, h2⟩ j h3 h4
      by_cases e : j = k
      · subst e; exact h1
      · exact h2 j (by omega) (by omega)
    · intro h
      exact ⟨h k (by omega) (by omega), fun j h3 h4 => h j (by omega) (by omega)⟩
theorem allF_congr {P Q : Nat → Bool} : ∀ m k : Nat, (∀ j, k ≤ j → j < k + m → P j = Q j) → allF P m k = allF Q m k
  | 0, k, _ => rfl
  | m + 1, k, h => by
    simp only [allF]
    rw [h k (by omega) (by omega), allF_congr m (k + 1) (fun j h3 h4 => h j (by omega) (by omega))]
/-- the least number from k on for which P is, k + m without one -/
def lsf (P : Nat → Bool) : Nat → Nat → Nat
  | 0, k => k
  | m + 1, k => if P k = true then k else lsf P m (k + 1)
theorem lsf_0 (P : Nat → Bool) (k : Nat) : lsf P 0 k = k := (rfl)
theorem lsf_s (P : Nat → Bool) (m k : Nat) : lsf P (m + 1) k = if P k = true then k else lsf P m (k + 1) := (rfl)
theorem lsf_le (P : Nat → Bool) : ∀ m k : Nat, k ≤ lsf P m k ∧ lsf P m k ≤ k + m
  | 0, k => ⟨Nat.le_refl _, Nat.le_refl _⟩
  | m + 1, k => by
    simp only [lsf]
    split
    · omega
    · have := lsf_le P m (k + 1); omega
theorem lsf_congr {P Q : Nat → Bool} : ∀ m k : Nat, (∀ j, k ≤ j → j < k + m → P j = Q j) → lsf P m k = lsf Q m k
  | 0, k, _ => rfl
  | m + 1, k, h => by
    simp only [lsf]
    rw [h k (by omega) (by omega), lsf_congr m (k + 1) (fun j h3 h4 => h j (by omega) (by omega))]
theorem lsf_none (P : Nat → Bool) : ∀ m k : Nat, lsf P m k = k + m ↔ ∀ j, k ≤ j → j < k + m → P j = false
  | 0, k => by simp only [lsf]; constructor; (intro _ j h1 h2; omega); (intro _; rfl)
  | m + 1, k => by
    simp only [lsf]
    by_cases e : P k = true
    · rw [if_pos e]
      constructor
      · intro h; omega
      · intro h; rw [h k (by omega) (by omega)] at e; cases e
    · rw [if_neg e, show k + (m + 1) = k + 1 + m by omega, lsf_none P m (k + 1)]
      constructor
      · intro h j h1 h2
        by_cases e2 : j = k
        · subst e2; simpa using e
        · exact h j (by omega) (by omega)
      · intro h j h1 h2; exact h j (by omega) (by omega)
theorem lsf_some (P : Nat → Bool) : ∀ m k : Nat, lsf P m k < k + m → P (lsf P m k) = true
  | 0, k, h => by simp only [lsf] at h; omega
  | m + 1, k, h => by
    simp only [lsf] at h ⊢
    by_cases e : P k = true
    · rw [if_pos e]; exact e
    · rw [if_neg e] at h ⊢
      exact lsf_some P m (k + 1) (by omega)
/-- a test: how many ones; of each its field, its sign, its thing (a field f as -1 - f) -/
def Ts : Type := Nat × (Nat → Nat) × (Nat → Int32) × (Nat → Int32)
def tn (t : Ts) : Nat := t.1
def tF (t : Ts) : Nat → Nat := t.2.1
def tS (t : Ts) : Nat → Int32 := t.2.2.1
def tR (t : Ts) : Nat → Int32 := t.2.2.2
def tA (x : Nat → Int32) (r : Int32) : Int32 := if r < 0 then x ((-1) - r).toNatClampNeg else r
def tO (a b s : Int32) : Bool := (if s = 61 then decide (a = b) else if s = 60 then decide (a < b) else decide (b < a)) && (decide (a ≠ -1) && decide (b ≠ -1))
def tP (t : Ts) (x : Nat → Int32) (j : Nat) : Bool := tO (x (tF t j)) (tA x (tR t j)) (tS t j)
def tH (t : Ts) (x : Nat → Int32) : Bool := allF (tP t x) (tn t) 0
def WT (nf : Nat) (t : Ts) : Prop := tn t ≤ 12 ∧ ∀ j : Nat, j < tn t → tF t j < nf ∧ (tR t j < 0 → ∃ g : Nat, g < nf ∧ tR t j = (-1) - Int32.ofNat g)
theorem m1_of (g : Nat) : (-1) - ((-1) - Int32.ofNat g) = Int32.ofNat g := by
  grind
/-- a test looks at its fields alone -/
theorem tH_congr {nf : Nat} {t : Ts} (W : WT nf t) (hnf : nf ≤ 6) {x y : Nat → Int32} (h : ∀ f : Nat, f < nf → x f = y f) : tH t x = tH t y := by
  refine allF_congr _ _ (fun j h1 h2 => ?_)
  obtain ⟨w1, w2⟩ := W.2 j (by omega)
  simp only [tP, h _ w1]
  have e : tA x (tR t j) = tA y (tR t j) := by
    simp only [tA]
    by_cases hr : tR t j < 0
    · rw [if_pos hr, if_pos hr]
      obtain ⟨g, hg, e⟩ := w2 hr
      rw [e, m1_of, cl_of (by omega)]
      exact h g hg
    · rw [if_neg hr, if_neg hr]
  rw [e]
/-- a book: how many fields, rules; tops, costs, rules, names -/
def Bk : Type := Nat × Nat × (Nat → Nat) × (Nat → Nat) × (Nat → Ts) × (Nat → List Nat)
def bF (b : Bk) : Nat := b.1
def bN (b : Bk) : Nat := b.2.1
def bT (b : Bk) : Nat → Nat := b.2.2.1
def bC (b : Bk) : Nat → Nat := b.2.2.2.1
def bR (b : Bk) : Nat → Ts := b.2.2.2.2.1
def bM (b : Bk) : Nat → List Nat := b.2.2.2.2.2
/-- the first rule that holds, all of them without one -/
def bB (b : Bk) (x : Nat → Int32) : Nat := lsf (fun k => tH (bR b k) x) (bN b) 0
theorem bB_le (b : Bk) (x : Nat → Int32) : bB b x ≤ bN b := by have := lsf_le (fun k => tH (bR b k) x) (bN b) 0; unfold bB; omega
def WB (b : Bk) : Prop := bF b ≤ 6 ∧ bN b ≤ 12 ∧ (∀ f : Nat, f < bF b → 1 ≤ bT b f ∧ bT b f ≤ 9 ∧ 1 ≤ bC b f ∧ bC b f ≤ 9) ∧ ∀ k : Nat, k < bN b → WT (bF b) (bR b k)
theorem bB_congr {b : Bk} (W : WB b) {x y : Nat → Int32} (h : ∀ f : Nat, f < bF b → x f = y f) : bB b x = bB b y := by
  refine lsf_congr _ _ (fun j h1 h2 => ?_)
  exact tH_congr (W.2.2.2 j (by omega)) W.1 h
/-! the class's tests and books in its heap -/
def CT (h : MHp) (t : Nat) (T : Ts) : Prop := hI h t 3 = Int32.ofNat (tn T) ∧ (∀ j : Nat, j < tn T → hAI h (t + 1) j = Int32.ofNat (tF T j) ∧ hAI h (t + 2) j = tS T j ∧ hAI h (t + 3) j = tR T j) ∧ ∀ f : Nat, f < 6 → (((hI h t 4 >>> (Int32.ofNat f &&& 31)) &&& 1 = 0) ↔ ∀ j : Nat, j < tn T → tF T j ≠ f ∧ tR T j ≠ (-1) - Int32.ofNat f)
def CB (h : MHp) (b : Nat) (B : Bk) : Prop := hI h b 4 = Int32.ofNat (bF B) ∧ hI h b 5 = Int32.ofNat (bN B) ∧ (∀ f : Nat, f < bF B → hAI h (b + 2) f = Int32.ofNat (bT B f) ∧ hAI h (b + 3) f = Int32.ofNat (bC B f)) ∧ ∀ k : Nat, k < bN B → CT h (b + 5 + 4 * k) (bR B k)

/-! values that let no rule hold: theory -/
def mnB (T : Ts) (f : Nat) : Bool := !(allF (fun j => decide (tF T j ≠ f ∧ tR T j ≠ (-1) - Int32.ofNat f)) (tn T) 0)
theorem mnB_f {T : Ts} {f : Nat} : mnB T f = false ↔ ∀ j : Nat, j < tn T → tF T j ≠ f ∧ tR T j ≠ (-1) - Int32.ofNat f := by
  unfold mnB
  rw [Bool.not_eq_false', allF_iff]
  constructor
  · intro h j hj
    exact of_decide_eq_true (h j (Nat.zero_le _) (by omega))
  · intro h j _ hj
    exact decide_eq_true (h j (by omega))
theorem tH_dep {nf : Nat} {t : Ts} (W : WT nf t) (hnf : nf ≤ 6) {x y : Nat → Int32} (h : ∀ f : Nat, f < nf → mnB t f = true → x f = y f) : tH t x = tH t y := by
  refine allF_congr _ _ (fun j h1 h2 => ?_)
  obtain ⟨w1, w2⟩ := W.2 j (by omega)
  have m : ∀ f : Nat, (tF t j = f ∨ tR t j = (-1) - Int32.ofNat f) → mnB t f = true := fun f hf => by
    cases e : mnB t f with
    | true => rfl
    | false =>
      have := (mnB_f.mp e) j (by omega)
      rcases hf with hf | hf
      · exact absurd hf this.1
      · exact absurd hf this.2
  simp only [tP, h _ w1 (m _ (Or.inl rfl))]
  have e : tA x (tR t j) = tA y (tR t j) := by
    simp only [tA]
    by_cases hr : tR t j < 0
    · rw [if_pos hr, if_pos hr]
      obtain ⟨g, hg, e⟩ := w2 hr
      have mg := m g (Or.inr e)
      rw [e, m1_of, cl_of (by omega)]
      exact h g hg mg
    · rw [if_neg hr, if_neg hr]
  rw [e]
theorem bB_all {B : Bk} {x : Nat → Int32} : bB B x = bN B ↔ ∀ k : Nat, k < bN B → tH (bR B k) x = false := by
  unfold bB
  have := lsf_none (fun k => tH (bR B k) x) (bN B) 0
  rw [Nat.zero_add] at this
  rw [this]
  exact ⟨fun h k hk => h k (Nat.zero_le _) hk, fun h k _ hk => h k hk⟩
/-- own values with others in a set's fields -/
def mixW (S : Nat) (x : Nat → Int32) (v : Nat → Nat) (f : Nat) : Int32 := if S.testBit f = true then Int32.ofNat (v f) else x f
def GoodV (B : Bk) (x : Nat → Int32) (S : Nat) (v : Nat → Nat) : Prop := (∀ f : Nat, f < bF B → S.testBit f = true → v f ≤ bT B f) ∧ bB B (mixW S x v) = bN B
def cd (B : Bk) (S : Nat) (v : Nat → Nat) : Nat → Nat
  | 0 => 0
  | f + 1 => if S.testBit f = true then cd B S v f * (bT B f + 1) + v f else cd B S v f
theorem cd_s (B : Bk) (S : Nat) (v : Nat → Nat) (f : Nat) : cd B S v (f + 1) = if S.testBit f = true then cd B S v f * (bT B f + 1) + v f else cd B S v f := (rfl)
theorem cd_congr {B : Bk} {S : Nat} {v w : Nat → Nat} : ∀ n : Nat, (∀ f : Nat, f < n → S.testBit f = true → v f = w f) → cd B S v n = cd B S w n
  | 0, _ => rfl
  | n + 1, h => by
    rw [cd_s, cd_s, cd_congr n (fun f hf => h f (by omega))]
    by_cases g : S.testBit n = true
    · rw [if_pos g, if_pos g, h n (by omega) g]
    · rw [if_neg g, if_neg g]
theorem cd_inj {B : Bk} {S : Nat} {v w : Nat → Nat} : ∀ n : Nat, (∀ f : Nat, f < n → S.testBit f = true → v f ≤ bT B f) → (∀ f : Nat, f < n → S.testBit f = true → w f ≤ bT B f) → cd B S v n = cd B S w n → ∀ f : Nat, f < n → S.testBit f = true → v f = w f
  | 0, _, _, _, f, hf, _ => by omega
  | n + 1, hv, hw, e, f, hf, hS => by
    rw [cd_s, cd_s] at e
    by_cases g : S.testBit n = true
    · rw [if_pos g, if_pos g] at e
      have h1 := hv n (by omega) g
      have h2 := hw n (by omega) g
      obtain ⟨e1, e2⟩ := cell_inj (show v n < bT B n + 1 by omega) (show w n < bT B n + 1 by omega) e
      by_cases q : f = n
      · subst q; exact e2
      · exact cd_inj n (fun f hf => hv f (by omega)) (fun f hf => hw f (by omega)) e1 f (by omega) hS
    · rw [if_neg g, if_neg g] at e
      by_cases q : f = n
      · subst q; exact absurd hS g
      · exact cd_inj n (fun f hf => hv f (by omega)) (fun f hf => hw f (by omega)) e f (by omega) hS
theorem cd_up {B : Bk} {S : Nat} {v w : Nat → Nat} : ∀ (q n : Nat), (∀ f : Nat, f < n + q → S.testBit f = true → v f ≤ bT B f) → cd B S v n < cd B S w n → cd B S v (n + q) < cd B S w (n + q)
  | 0, n, _, h => h
  | q + 1, n, hv, h => by
    have ih := cd_up q n (fun f hf => hv f (by omega)) h
    rw [show n + (q + 1) = (n + q) + 1 by omega, cd_s, cd_s]
    by_cases g : S.testBit (n + q) = true
    · rw [if_pos g, if_pos g]
      have h1 := hv (n + q) (by omega) g
      have h2 : (cd B S v (n + q) + 1) * (bT B (n + q) + 1) ≤ cd B S w (n + q) * (bT B (n + q) + 1) := Nat.mul_le_mul_right _ ih
      rw [Nat.add_mul, Nat.one_mul] at h2
      omega
    · rw [if_neg g, if_neg g]; exact ih
/-- where two first differ, the lesser is the lesser number -/
theorem cd_lt {B : Bk} {S : Nat} {v w : Nat → Nat} {i n : Nat} (hi : i < n) (hS : S.testBit i = true) (hv : ∀ f : Nat, f < n → S.testBit f = true → v f ≤ bT B f) (e : ∀ f : Nat, f < i → S.testBit f = true → v f = w f) (h : v i < w i) : cd B S v n < cd B S w n := by
  have h1 : cd B S v (i + 1) < cd B S w (i + 1) := by
    rw [cd_s, cd_s, if_pos hS, if_pos hS, cd_congr i e]; omega
  have := cd_up (n - (i + 1)) (i + 1) (fun f hf => hv f (by omega)) h1
  rw [show i + 1 + (n - (i + 1)) = n by omega] at this
  exact this
def MinV (B : Bk) (x : Nat → Int32) (S : Nat) (v : Nat → Nat) : Prop := GoodV B x S v ∧ ∀ w : Nat → Nat, GoodV B x S w → cd B S v (bF B) ≤ cd B S w (bF B)
theorem MinV.un {B : Bk} {x : Nat → Int32} {S : Nat} {v w : Nat → Nat} (A : MinV B x S v) (C : MinV B x S w) : ∀ f : Nat, f < bF B → S.testBit f = true → v f = w f :=
  cd_inj (bF B) A.1.1 C.1.1 (Nat.le_antisymm (A.2 w C.1) (C.2 v A.1))
/-- how many a set's fields before f -/
def msz (S : Nat) : Nat → Nat
  | 0 => 0
  | f + 1 => msz S f + (if S.testBit f = true then 1 else 0)
theorem msz_s (S f : Nat) : msz S (f + 1) = msz S f + (if S.testBit f = true then 1 else 0) := (rfl)
theorem msz_mono (S : Nat) : ∀ q f : Nat, msz S f ≤ msz S (f + q)
  | 0, f => Nat.le_refl _
  | q + 1, f => by
    have := msz_mono S q f
    rw [show f + (q + 1) = (f + q) + 1 by omega, msz_s]
    by_cases g : S.testBit (f + q) = true
    · rw [if_pos g]; omega
    · rw [if_neg g]; omega
theorem msz_lt {S f g : Nat} (hS : S.testBit f = true) (h : f < g) : msz S f < msz S g := by
  have := msz_mono S (g - (f + 1)) (f + 1)
  rw [show f + 1 + (g - (f + 1)) = g by omega, msz_s, if_pos hS] at this
  omega
theorem msz_le (S : Nat) : ∀ f : Nat, msz S f ≤ f
  | 0 => Nat.le_refl _
  | f + 1 => by
    have := msz_le S f
    rw [msz_s]
    by_cases g : S.testBit f = true
    · rw [if_pos g]; omega
    · rw [if_neg g]; omega
/-- when a rule is ripe: at the last of a set's fields that it asks for -/
def rp (S : Nat) (T : Ts) : Nat → Int32
  | 0 => -1
  | g + 1 => if (S.testBit g && mnB T g) = true then Int32.ofNat (msz S g) else rp S T g
theorem rp_s (S : Nat) (T : Ts) (g : Nat) : rp S T (g + 1) = if (S.testBit g && mnB T g) = true then Int32.ofNat (msz S g) else rp S T g := (rfl)
/-- all of a set's fields that a rule asks for lie before f -/
def stl (S : Nat) (T : Ts) (f : Nat) : Prop := ∀ g : Nat, g < 6 → S.testBit g = true → mnB T g = true → g < f
theorem rp_spec {S : Nat} {T : Ts} : ∀ n : Nat, n ≤ 6 → (rp S T n = -1 ∧ ∀ g : Nat, g < n → S.testBit g = true → mnB T g = true → False) ∨ ∃ g : Nat, g < n ∧ S.testBit g = true ∧ mnB T g = true ∧ rp S T n = Int32.ofNat (msz S g) ∧ ∀ g' : Nat, g < g' → g' < n → S.testBit g' = true → mnB T g' = true → False
  | 0, _ => Or.inl ⟨rfl, fun g hg => by omega⟩
  | n + 1, hn => by
    rw [rp_s]
    by_cases c : (S.testBit n && mnB T n) = true
    · rw [if_pos c]
      rw [Bool.and_eq_true] at c
      exact Or.inr ⟨n, by omega, c.1, c.2, rfl, fun g' h1 h2 => by omega⟩
    · rw [if_neg c]
      have nc : ∀ g : Nat, g = n → S.testBit g = true → mnB T g = true → False := fun g e h1 h2 => by
        subst e
        exact c (by rw [h1, h2]; rfl)
      rcases rp_spec n (by omega) with ⟨e, h⟩ | ⟨g, h1, h2, h3, h4, h5⟩
      · refine Or.inl ⟨e, fun g hg a b => ?_⟩
        by_cases q : g = n
        · exact nc g q a b
        · exact h g (by omega) a b
      · refine Or.inr ⟨g, by omega, h2, h3, h4, fun g' a b c d => ?_⟩
        by_cases q : g' = n
        · exact nc g' q c d
        · exact h5 g' a (by omega) c d
theorem rp_ripe {S : Nat} {T : Ts} {f : Nat} (hf : f < 6) (hS : S.testBit f = true) : rp S T 6 = Int32.ofNat (msz S f) ↔ stl S T (f + 1) ∧ ¬ stl S T f := by
  have ml : ∀ g : Nat, g < 6 → msz S g < 2147483648 := fun g hg => by have := msz_le S g; omega
  rcases rp_spec (S := S) (T := T) 6 (Nat.le_refl _) with ⟨e, h⟩ | ⟨g, h1, h2, h3, h4, h5⟩
  · rw [e]
    constructor
    · intro hh; exact absurd hh.symm (nm_of (ml f hf))
    · intro hh
      exact absurd (fun g a b c => (h g a b c).elim) hh.2
  · rw [h4, eq_of (ml g h1) (ml f hf)]
    constructor
    · intro hh
      have gf : g = f := by
        rcases Nat.lt_trichotomy g f with h | h | h
        · have := msz_lt h2 h; omega
        · exact h
        · have := msz_lt hS h; omega
      subst gf
      refine ⟨fun g' a b c => ?_, fun hh => ?_⟩
      · apply Nat.lt_of_not_le
        intro hle
        exact h5 g' (by omega) a b c
      · have := hh g h1 h2 h3
        omega
    · rintro ⟨a, b⟩
      have g1 := a g h1 h2 h3
      have g2 : ¬ g < f := fun hlt => b (fun g' x y z => by
        apply Nat.lt_of_not_le
        intro hle
        exact h5 g' (by omega) x y z)
      have : g = f := by omega
      rw [this]
theorem rp_first {S : Nat} {T : Ts} : rp S T 6 = -1 ↔ stl S T 0 := by
  rcases rp_spec (S := S) (T := T) 6 (Nat.le_refl _) with ⟨e, h⟩ | ⟨g, h1, h2, h3, h4, h5⟩
  · exact ⟨fun _ g a b c => (h g a b c).elim, fun _ => e⟩
  · constructor
    · intro hh
      rw [h4] at hh
      exact absurd hh (nm_of (by have := msz_le S g; omega))
    · intro hh
      have := hh g h1 h2 h3
      omega
/-- no rule that is settled before f holds -/
def NR (B : Bk) (S f : Nat) (w : Nat → Int32) : Prop := ∀ k : Nat, k < bN B → stl S (bR B k) f → tH (bR B k) w = false
def hrB (B : Bk) (S : Nat) (w : Nat → Int32) (d : Int32) : Bool := !(allF (fun k => !(decide (rp S (bR B k) 6 = d) && tH (bR B k) w)) (bN B) 0)
theorem hrB_f {B : Bk} {S : Nat} {w : Nat → Int32} {d : Int32} : hrB B S w d = false ↔ ∀ k : Nat, k < bN B → rp S (bR B k) 6 = d → tH (bR B k) w = false := by
  unfold hrB
  rw [Bool.not_eq_false', allF_iff]
  constructor
  · intro h k hk e
    have := h k (Nat.zero_le _) (by omega)
    rw [e, decide_eq_true rfl, Bool.true_and, Bool.not_eq_true'] at this
    exact this
  · intro h k _ hk
    by_cases e : rp S (bR B k) 6 = d
    · rw [h k (by omega) e, Bool.and_false]; rfl
    · rw [decide_eq_false e, Bool.false_and]; rfl
theorem hrB_t {B : Bk} {S : Nat} {w : Nat → Int32} {d : Int32} (h : hrB B S w d = true) : ∃ k : Nat, k < bN B ∧ rp S (bR B k) 6 = d ∧ tH (bR B k) w = true := by
  apply Classical.byContradiction
  intro hn
  have : hrB B S w d = false := hrB_f.mpr (fun k hk e => by
    cases t : tH (bR B k) w with
    | false => rfl
    | true => exact absurd ⟨k, hk, e, t⟩ hn)
  rw [h] at this; cases this
theorem NR.next {B : Bk} {S f : Nat} {w : Nat → Int32} (hf : f < 6) (hS : S.testBit f = true) (N : NR B S f w) (H : hrB B S w (Int32.ofNat (msz S f)) = false) : NR B S (f + 1) w := by
  intro k hk hst
  by_cases e : stl S (bR B k) f
  · exact N k hk e
  · exact hrB_f.mp H k hk ((rp_ripe hf hS).mpr ⟨hst, e⟩)
theorem NR.skip {B : Bk} {S f : Nat} {w : Nat → Int32} (hS : ¬ S.testBit f = true) (N : NR B S f w) : NR B S (f + 1) w := by
  intro k hk hst
  refine N k hk (fun g a b c => ?_)
  have := hst g a b c
  by_cases e : g = f
  · subst e; exact absurd b hS
  · omega
/-- a settled rule looks at what is settled alone -/
theorem tH_stl {B : Bk} (W : WB B) {S f k : Nat} {w w' : Nat → Int32} (hk : k < bN B) (hst : stl S (bR B k) f) (e : ∀ g : Nat, g < bF B → (S.testBit g = true → g < f) → w g = w' g) : tH (bR B k) w = tH (bR B k) w' :=
  tH_dep (W.2.2.2 k hk) W.1 (fun g hg m => e g hg (fun b => hst g (by have := W.1; omega) b m))
theorem NR.congr {B : Bk} (W : WB B) {S f : Nat} {w w' : Nat → Int32} (N : NR B S f w) (e : ∀ g : Nat, g < bF B → (S.testBit g = true → g < f) → w g = w' g) : NR B S f w' := fun k hk hst => by
  rw [← tH_stl W hk hst e]; exact N k hk hst
/-- turns of a search from f on -/
def kc (B : Bk) (S : Nat) : Nat → Nat → Nat
  | 0, _ => 0
  | q + 1, f => if S.testBit f = true then (bT B f + 1) * (1 + kc B S q (f + 1)) + 1 else kc B S q (f + 1)
theorem kc_s (B : Bk) (S q f : Nat) : kc B S (q + 1) f = if S.testBit f = true then (bT B f + 1) * (1 + kc B S q (f + 1)) + 1 else kc B S q (f + 1) := (rfl)
def pm (B : Bk) (S : Nat) : Nat → Nat → Nat
  | 0, _ => 1
  | q + 1, f => if S.testBit f = true then (bT B f + 1) * pm B S q (f + 1) else pm B S q (f + 1)
theorem pm_s (B : Bk) (S q f : Nat) : pm B S (q + 1) f = if S.testBit f = true then (bT B f + 1) * pm B S q (f + 1) else pm B S q (f + 1) := (rfl)
theorem kc_le {B : Bk} {S : Nat} (h : ∀ f : Nat, S.testBit f = true → 1 ≤ bT B f) : ∀ q f : Nat, kc B S q f + 3 ≤ 3 * pm B S q f
  | 0, f => by show 0 + 3 ≤ 3 * 1; omega
  | q + 1, f => by
    have ih := kc_le h q (f + 1)
    rw [kc_s, pm_s]
    by_cases g : S.testBit f = true
    · rw [if_pos g, if_pos g]
      have t := h f g
      have e1 : (bT B f + 1) * (kc B S q (f + 1) + 3) ≤ (bT B f + 1) * (3 * pm B S q (f + 1)) := Nat.mul_le_mul_left _ ih
      have e2 : (bT B f + 1) * (kc B S q (f + 1) + 3) = (bT B f + 1) * (1 + kc B S q (f + 1)) + (bT B f + 1) * 2 := by
        rw [← Nat.mul_add]
        congr 1
        omega
      have e3 : (bT B f + 1) * (3 * pm B S q (f + 1)) = 3 * ((bT B f + 1) * pm B S q (f + 1)) := Nat.mul_left_comm _ _ _
      rw [e2, e3] at e1
      have e4 : 2 * 2 ≤ (bT B f + 1) * 2 := Nat.mul_le_mul_right 2 (by omega)
      omega
    · rw [if_neg g, if_neg g]; exact ih
theorem pm_out {B : Bk} {S : Nat} : ∀ q f : Nat, (∀ g : Nat, f ≤ g → ¬ S.testBit g = true) → pm B S q f = 1
  | 0, _, _ => rfl
  | q + 1, f, h => by rw [pm_s, if_neg (h f (Nat.le_refl _)), pm_out q (f + 1) (fun g hg => h g (by omega))]
/-- the product from the front -/
def pf (B : Bk) (S : Nat) : Nat → Nat
  | 0 => 1
  | f + 1 => if S.testBit f = true then pf B S f * (bT B f + 1) else pf B S f
theorem pf_s (B : Bk) (S f : Nat) : pf B S (f + 1) = if S.testBit f = true then pf B S f * (bT B f + 1) else pf B S f := (rfl)
theorem pf_pm {B : Bk} {S : Nat} : ∀ q f : Nat, pf B S f * pm B S q f = pf B S (f + q)
  | 0, f => by show pf B S f * 1 = pf B S f; rw [Nat.mul_one]
  | q + 1, f => by
    rw [show f + (q + 1) = (f + 1) + q by omega, ← pf_pm q (f + 1), pm_s, pf_s]
    by_cases g : S.testBit f = true
    · rw [if_pos g, if_pos g, Nat.mul_assoc]
    · rw [if_neg g, if_neg g]
theorem pf_sp {B : Bk} {S : Nat} : ∀ f : Nat, pf B S f ≤ spT B f
  | 0 => Nat.le_refl _
  | f + 1 => by
    have ih := pf_sp (B := B) (S := S) f
    rw [pf_s]
    show _ ≤ spT B f * (bT B f + 1)
    by_cases g : S.testBit f = true
    · rw [if_pos g]; exact Nat.mul_le_mul_right _ ih
    · rw [if_neg g]
      exact Nat.le_trans ih (Nat.le_mul_of_pos_right _ (by omega))
theorem cd_pf {B : Bk} {S : Nat} {v : Nat → Nat} : ∀ n : Nat, (∀ f : Nat, f < n → S.testBit f = true → v f ≤ bT B f) → cd B S v n < pf B S n
  | 0, _ => Nat.one_pos
  | n + 1, h => by
    have ih := cd_pf n (fun f hf => h f (by omega))
    rw [cd_s, pf_s]
    by_cases g : S.testBit n = true
    · rw [if_pos g, if_pos g]
      have h1 := h n (by omega) g
      have h2 : (cd B S v n + 1) * (bT B n + 1) ≤ pf B S n * (bT B n + 1) := Nat.mul_le_mul_right _ ih
      rw [Nat.add_mul, Nat.one_mul] at h2
      omega
    · rw [if_neg g, if_neg g]; exact ih

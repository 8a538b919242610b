/-! sums of whole numbers -/
def sm (f : Nat → Int) : Nat → Int
  | 0 => 0
  | n + 1 => sm f n + f n
theorem sm_0 (f : Nat → Int) : sm f 0 = 0 := (rfl)
theorem sm_s (f : Nat → Int) (n : Nat) : sm f (n + 1) = sm f n + f n := (rfl)
theorem sm_congr {f g : Nat → Int} : ∀ n : Nat, (∀ k : Nat, k < n → f k = g k) → sm f n = sm g n
  | 0, _ => rfl
  | n + 1, h => by rw [sm_s, sm_s, sm_congr n (fun k hk => h k (by omega)), h n (by omega)]
theorem sm_sub (f g : Nat → Int) : ∀ n : Nat, sm (fun k => f k - g k) n = sm f n - sm g n
  | 0 => rfl
  | n + 1 => by rw [sm_s, sm_s, sm_s, sm_sub f g n]; omega
theorem sm_add (f g : Nat → Int) : ∀ n : Nat, sm (fun k => f k + g k) n = sm f n + sm g n
  | 0 => rfl
  | n + 1 => by rw [sm_s, sm_s, sm_s, sm_add f g n]; omega
theorem sm_mul (a : Int) (f : Nat → Int) : ∀ n : Nat, sm (fun k => a * f k) n = a * sm f n
  | 0 => by rw [sm_0, sm_0, Int.mul_zero]
  | n + 1 => by rw [sm_s, sm_s, sm_mul a f n, Int.mul_add]
theorem sm_zero : ∀ n : Nat, sm (fun _ => 0) n = 0
  | 0 => rfl
  | n + 1 => by rw [sm_s, sm_zero n]; rfl
theorem sm_swap (f : Nat → Nat → Int) (m : Nat) : ∀ n : Nat, sm (fun i => sm (fun j => f i j) m) n = sm (fun j => sm (fun i => f i j) n) m
  | 0 => by
    rw [sm_0]
    exact (sm_zero m).symm
  | n + 1 => by
    rw [sm_s, sm_swap f m n, ← sm_add]
    exact sm_congr m (fun k _ => rfl)
theorem sm_up (f : Nat → Int) (a : Int) (k : Nat) : ∀ n : Nat, sm (fun j => if j = k then f j + a else f j) n = sm f n + (if k < n then a else 0)
  | 0 => by rw [sm_0, sm_0, if_neg (by omega)]; rfl
  | n + 1 => by
    rw [sm_s, sm_s, sm_up f a k n]
    by_cases e : n = k
    · subst e
      rw [if_neg (by omega), if_pos rfl, if_pos (by omega)]; omega
    · rw [if_neg e]
      by_cases e2 : k < n
      · rw [if_pos e2, if_pos (by omega)]; omega
      · rw [if_neg e2, if_neg (by omega)]; omega
theorem sm_nn {f : Nat → Int} : ∀ n : Nat, (∀ k : Nat, k < n → 0 ≤ f k) → 0 ≤ sm f n
  | 0, _ => Int.le_refl _
  | n + 1, h => by
    have h1 := sm_nn n (fun k hk => h k (by omega))
    have h2 := h n (by omega)
    rw [sm_s]; omega
theorem sm_ge {f : Nat → Int} {q : Nat} : ∀ n : Nat, q < n → (∀ k : Nat, k < n → k ≠ q → 0 ≤ f k) → f q ≤ sm f n
  | 0, hq, _ => by omega
  | n + 1, hq, h => by
    rw [sm_s]
    by_cases e : n = q
    · subst e
      have := sm_nn (f := f) n (fun k hk => h k (by omega) (by omega))
      omega
    · have h1 := sm_ge n (show q < n by omega) (fun k hk => h k (by omega))
      have h2 := h n (by omega) e
      omega
/-! cells between lines and columns; sums of a line or a column -/
def cb (ls cs u v : Nat) : Nat := if u < ls then u * cs + (v - ls) else v * cs + (u - ls)
def nS (ls cs : Nat) (y : Nat → Int) (x : Nat) : Int := if x < ls then sm (fun j => y (x * cs + j)) cs else sm (fun i => y (i * cs + (x - ls))) ls
def upA (y : Nat → Int) (c : Nat) (a : Int) (k : Nat) : Int := if k = c then y k + a else y k
theorem nS_up {ls cs i j x : Nat} {y : Nat → Int} {a : Int} (hi : i < ls) (hj : j < cs) (hx : x < ls + cs) : nS ls cs (upA y (i * cs + j) a) x = nS ls cs y x + (if x = i ∨ x = ls + j then a else 0) := by
  unfold nS
  by_cases g : x < ls
  · rw [if_pos g, if_pos g]
    have e : sm (fun j' => upA y (i * cs + j) a (x * cs + j')) cs = sm (fun j' => if j' = (if x = i then j else cs) then y (x * cs + j') + a else y (x * cs + j')) cs := by
      refine sm_congr cs (fun k hk => ?_)
      unfold upA
      by_cases e1 : x = i
      · subst e1
        rw [if_pos rfl]
        by_cases e2 : k = j
        · rw [if_pos (by rw [e2]), if_pos e2]
        · rw [if_neg (by omega), if_neg e2]
      · rw [if_neg e1, if_neg (fun h => e1 (cell_inj hk hj h).1), if_neg (by omega)]
    rw [e, sm_up]
    by_cases e1 : x = i
    · rw [if_pos e1, if_pos hj, if_pos (Or.inl e1)]
    · rw [if_neg e1, if_neg (by omega), if_neg (by omega)]
  · rw [if_neg g, if_neg g]
    have e : sm (fun i' => upA y (i * cs + j) a (i' * cs + (x - ls))) ls = sm (fun i' => if i' = (if x = ls + j then i else ls) then y (i' * cs + (x - ls)) + a else y (i' * cs + (x - ls))) ls := by
      refine sm_congr ls (fun k hk => ?_)
      unfold upA
      by_cases e1 : x = ls + j
      · rw [if_pos e1]
        have e3 : x - ls = j := by omega
        rw [e3]
        by_cases e2 : k = i
        · rw [if_pos (by rw [e2]), if_pos e2]
        · rw [if_neg (fun h => e2 (cell_inj hj hj h).1), if_neg e2]
      · rw [if_neg e1, if_neg (fun h => e1 (by have := (cell_inj (show x - ls < cs by omega) hj h).2; omega)), if_neg (by omega)]
    rw [e, sm_up]
    by_cases e1 : x = ls + j
    · rw [if_pos e1, if_pos hi, if_pos (Or.inr e1)]
    · rw [if_neg e1, if_neg (by omega), if_neg (by omega)]
/-! cuts -/
def bi (S : Nat → Bool) (u : Nat) : Int := if S u = true then 1 else 0
theorem cut {ls cs i0 j0 : Nat} {y z : Nat → Int} {S : Nat → Bool} {s : Int} (hi0 : i0 < ls) (hj0 : j0 < cs) (E : ∀ x : Nat, x < ls + cs → nS ls cs z x = nS ls cs y x) (H : ∀ i j : Nat, i < ls → j < cs → (i ≠ i0 ∨ j ≠ j0) → 0 ≤ s * ((bi S i - bi S (ls + j)) * (z (i * cs + j) - y (i * cs + j)))) : s * ((bi S i0 - bi S (ls + j0)) * (z (i0 * cs + j0) - y (i0 * cs + j0))) ≤ 0 := by
  have z1 : sm (fun i => sm (fun j => bi S i * (z (i * cs + j) - y (i * cs + j))) cs) ls = 0 := by
    rw [sm_congr (g := fun _ => 0) ls (fun i hi => ?_), sm_zero]
    rw [sm_mul, sm_sub]
    have := E i (by omega)
    unfold nS at this
    rw [if_pos hi, if_pos hi] at this
    rw [this, Int.sub_self, Int.mul_zero]
  have z2 : sm (fun i => sm (fun j => bi S (ls + j) * (z (i * cs + j) - y (i * cs + j))) cs) ls = 0 := by
    rw [sm_swap, sm_congr (g := fun _ => 0) cs (fun j hj => ?_), sm_zero]
    rw [sm_mul, sm_sub]
    have := E (ls + j) (by omega)
    unfold nS at this
    rw [if_neg (by omega), if_neg (by omega), show ls + j - ls = j by omega] at this
    rw [this, Int.sub_self, Int.mul_zero]
  have z3 : sm (fun i => sm (fun j => s * ((bi S i - bi S (ls + j)) * (z (i * cs + j) - y (i * cs + j)))) cs) ls = 0 := by
    have e : sm (fun i => sm (fun j => s * ((bi S i - bi S (ls + j)) * (z (i * cs + j) - y (i * cs + j)))) cs) ls = s * (sm (fun i => sm (fun j => bi S i * (z (i * cs + j) - y (i * cs + j))) cs) ls - sm (fun i => sm (fun j => bi S (ls + j) * (z (i * cs + j) - y (i * cs + j))) cs) ls) := by
      rw [← sm_sub, ← sm_mul]
      refine sm_congr ls (fun i _ => ?_)
      rw [← sm_sub, ← sm_mul]
      refine sm_congr cs (fun j _ => ?_)
      rw [Int.sub_mul]
    rw [e, z1, z2, Int.sub_self, Int.mul_zero]
  have h1 : sm (fun j => s * ((bi S i0 - bi S (ls + j)) * (z (i0 * cs + j) - y (i0 * cs + j)))) cs ≤ 0 := by
    rw [← z3]
    exact sm_ge (f := fun i => sm (fun j => s * ((bi S i - bi S (ls + j)) * (z (i * cs + j) - y (i * cs + j)))) cs) ls hi0 (fun i hi hne => sm_nn cs (fun j hj => H i j hi hj (Or.inl hne)))
  have h2 := sm_ge (f := fun j => s * ((bi S i0 - bi S (ls + j)) * (z (i0 * cs + j) - y (i0 * cs + j)))) cs hj0 (fun j hj hne => H i0 j hi0 hj (Or.inr hne))
  exact Int.le_trans h2 h1
/-- the tables that give the same sums -/
def Fs (ls cs : Nat) (out : Nat → Bool) (x0 z : Nat → Int) : Prop := (∀ c : Nat, c < ls * cs → 0 ≤ z c) ∧ (∀ c : Nat, c < ls * cs → out c = false → z c = x0 c) ∧ ∀ x : Nat, x < ls + cs → nS ls cs z x = nS ls cs x0 x
def okF (ls cs q : Nat) (out : Nat → Bool) (y : Nat → Int) (md : Bool) (u v : Nat) : Bool := decide ((u < ls ∧ ls ≤ v ∨ ls ≤ u ∧ v < ls) ∧ cb ls cs u v ≠ q ∧ out (cb ls cs u v) = true ∧ (decide (u < ls) = md → 0 < y (cb ls cs u v)))
theorem cb_r {ls cs i j : Nat} (hi : i < ls) : cb ls cs i (ls + j) = i * cs + j := by
  unfold cb; rw [if_pos hi, show ls + j - ls = j by omega]
theorem cb_c {ls cs i j : Nat} : cb ls cs (ls + j) i = i * cs + j := by
  unfold cb; rw [if_neg (by omega), show ls + j - ls = j by omega]
theorem opt_H {ls cs i0 j0 : Nat} {out : Nat → Bool} {x0 y z : Nat → Int} {md : Bool} {S : Nat → Bool} (hj0 : j0 < cs) (Y : Fs ls cs out x0 y) (Z : Fs ls cs out x0 z) (cl : ∀ u v : Nat, u < ls + cs → v < ls + cs → S u = true → okF ls cs (i0 * cs + j0) out y md u v = true → S v = true) : ∀ i j : Nat, i < ls → j < cs → (i ≠ i0 ∨ j ≠ j0) → 0 ≤ (if md = true then (1 : Int) else -1) * ((bi S i - bi S (ls + j)) * (z (i * cs + j) - y (i * cs + j))) := by
  intro i j hi hj hne
  have hc := cell_lt hi hj
  have nq : i * cs + j ≠ i0 * cs + j0 := fun e => by
    have := cell_inj hj hj0 e
    omega
  by_cases o : out (i * cs + j) = true
  · have c1 := cl i (ls + j) (by omega) (by omega)
    have c2 := cl (ls + j) i (by omega) (by omega)
    unfold okF at c1 c2
    rw [cb_r hi, decide_eq_true_eq] at c1
    rw [cb_c, decide_eq_true_eq] at c2
    have zp := Z.1 _ hc
    have yp := Y.1 _ hc
    unfold bi
    by_cases s1 : S i = true
    · by_cases s2 : S (ls + j) = true
      · rw [if_pos s1, if_pos s2, Int.sub_self, Int.zero_mul, Int.mul_zero]; exact Int.le_refl _
      · cases md with
        | true =>
          have y0 : ¬ 0 < y (i * cs + j) := fun h => s2 (c1 s1 ⟨Or.inl ⟨hi, by omega⟩, nq, o, fun _ => h⟩)
          rw [if_pos s1, if_neg s2, if_pos rfl, Int.one_mul, Int.sub_zero, Int.one_mul]
          omega
        | false => exact absurd (c1 s1 ⟨Or.inl ⟨hi, by omega⟩, nq, o, fun h => by rw [decide_eq_true hi] at h; cases h⟩) s2
    · by_cases s2 : S (ls + j) = true
      · cases md with
        | true => exact absurd (c2 s2 ⟨Or.inr ⟨by omega, hi⟩, nq, o, fun h => by rw [decide_eq_false (by omega)] at h; cases h⟩) s1
        | false =>
          have y0 : ¬ 0 < y (i * cs + j) := fun h => s1 (c2 s2 ⟨Or.inr ⟨by omega, hi⟩, nq, o, fun _ => h⟩)
          rw [if_neg s1, if_pos s2, if_neg (by decide), Int.zero_sub, Int.neg_mul, Int.one_mul]
          omega
      · rw [if_neg s1, if_neg s2, Int.sub_self, Int.zero_mul, Int.mul_zero]; exact Int.le_refl _
  · have o2 : out (i * cs + j) = false := by simpa using o
    rw [Y.2.1 _ hc o2, Z.2.1 _ hc o2, Int.sub_self, Int.mul_zero, Int.mul_zero]; exact Int.le_refl _
theorem opt_A {ls cs i0 j0 : Nat} {out : Nat → Bool} {x0 y z : Nat → Int} {S : Nat → Bool} (hi0 : i0 < ls) (hj0 : j0 < cs) (Y : Fs ls cs out x0 y) (Z : Fs ls cs out x0 z) (cl : ∀ u v : Nat, u < ls + cs → v < ls + cs → S u = true → okF ls cs (i0 * cs + j0) out y true u v = true → S v = true) (s1 : S i0 = true) (s2 : S (ls + j0) = false) : z (i0 * cs + j0) ≤ y (i0 * cs + j0) := by
  have h := cut (S := S) hi0 hj0 (fun x hx => (Z.2.2 x hx).trans (Y.2.2 x hx).symm) (opt_H hj0 Y Z cl)
  unfold bi at h
  rw [s1, s2, if_pos rfl, if_pos rfl, if_neg (by decide), Int.one_mul, Int.sub_zero, Int.one_mul] at h
  omega
theorem opt_B {ls cs i0 j0 : Nat} {out : Nat → Bool} {x0 y z : Nat → Int} {S : Nat → Bool} (hi0 : i0 < ls) (hj0 : j0 < cs) (Y : Fs ls cs out x0 y) (Z : Fs ls cs out x0 z) (cl : ∀ u v : Nat, u < ls + cs → v < ls + cs → S u = true → okF ls cs (i0 * cs + j0) out y false u v = true → S v = true) (s1 : S i0 = true) (s2 : S (ls + j0) = false) : y (i0 * cs + j0) ≤ z (i0 * cs + j0) := by
  have h := cut (S := S) hi0 hj0 (fun x hx => (Z.2.2 x hx).trans (Y.2.2 x hx).symm) (opt_H hj0 Y Z cl)
  unfold bi at h
  rw [s1, s2, if_neg (by decide), if_pos rfl, if_neg (by decide), Int.sub_zero, Int.one_mul] at h
  omega
theorem opt_C {ls cs i0 j0 : Nat} {out : Nat → Bool} {x0 y z : Nat → Int} {S : Nat → Bool} (hi0 : i0 < ls) (hj0 : j0 < cs) (Y : Fs ls cs out x0 y) (Z : Fs ls cs out x0 z) (cl : ∀ u v : Nat, u < ls + cs → v < ls + cs → S u = true → okF ls cs (i0 * cs + j0) out y false u v = true → S v = true) (s1 : S i0 = false) (s2 : S (ls + j0) = true) : z (i0 * cs + j0) ≤ y (i0 * cs + j0) := by
  have h := cut (S := S) hi0 hj0 (fun x hx => (Z.2.2 x hx).trans (Y.2.2 x hx).symm) (opt_H hj0 Y Z cl)
  unfold bi at h
  rw [s1, s2, if_neg (by decide), if_neg (by decide), if_pos rfl, Int.zero_sub, Int.neg_mul, Int.one_mul] at h
  omega
/-! ways -/
def sg (ls : Nat) (md : Bool) (a : Int) (u : Nat) : Int := if decide (u < ls) = md then -a else a
/-- a tree of ways from a start -/
def Tr (ls cs q : Nat) (out : Nat → Bool) (y : Nat → Int) (md : Bool) (st : Nat) (fr : Nat → Option Nat) (ps : Nat → Nat) : Prop := st < ls + cs ∧ fr st = some st ∧ ∀ v : Nat, v < ls + cs → v ≠ st → ∀ u : Nat, fr v = some u → u < ls + cs ∧ fr u ≠ none ∧ ps u < ps v ∧ okF ls cs q out y md u v = true
def chg (ls cs : Nat) (md : Bool) (a : Int) (st : Nat) (fr : Nat → Option Nat) : Nat → Nat → (Nat → Int) → Nat → Int
  | 0, _, y => y
  | n + 1, v, y => if v = st then y else match fr v with
    | none => y
    | some u => chg ls cs md a st fr n u (upA y (cb ls cs u v) (sg ls md a u))
theorem chg_s {ls cs st n v u : Nat} {md : Bool} {a : Int} {fr : Nat → Option Nat} {y : Nat → Int} (hv : v ≠ st) (hu : fr v = some u) : chg ls cs md a st fr (n + 1) v y = chg ls cs md a st fr n u (upA y (cb ls cs u v) (sg ls md a u)) := by
  rw [chg, if_neg hv, hu]
theorem chg_0 {ls cs st n : Nat} {md : Bool} {a : Int} {fr : Nat → Option Nat} {y : Nat → Int} : chg ls cs md a st fr n st y = y := by
  cases n with
  | zero => rfl
  | succ n => rw [chg, if_pos rfl]
/-- the two ends of a way -/
theorem ok_ends {ls cs q u v : Nat} {out : Nat → Bool} {y : Nat → Int} {md : Bool} (h : okF ls cs q out y md u v = true) (hu : u < ls + cs) (hv : v < ls + cs) : ∃ i j : Nat, i < ls ∧ j < cs ∧ cb ls cs u v = i * cs + j ∧ (u = i ∧ v = ls + j ∨ u = ls + j ∧ v = i) := by
  unfold okF at h
  rw [decide_eq_true_eq] at h
  rcases h.1 with ⟨h1, h2⟩ | ⟨h1, h2⟩
  · refine ⟨u, v - ls, h1, by omega, ?_, Or.inl ⟨rfl, by omega⟩⟩
    unfold cb; rw [if_pos h1]
  · refine ⟨v, u - ls, h2, by omega, ?_, Or.inr ⟨by omega, rfl⟩⟩
    unfold cb; rw [if_neg (by omega)]
theorem chg_nS {ls cs q st : Nat} {out : Nat → Bool} {y0 : Nat → Int} {md : Bool} {a : Int} {fr : Nat → Option Nat} {ps : Nat → Nat} (T : Tr ls cs q out y0 md st fr ps) : ∀ (n v : Nat) (y : Nat → Int), v < ls + cs → fr v ≠ none → ps v ≤ n → ∀ x : Nat, x < ls + cs → nS ls cs (chg ls cs md a st fr n v y) x = nS ls cs y x + (if x = st then sg ls md a st else 0) - (if x = v then sg ls md a v else 0) := by
  intro n
  induction n with
  | zero =>
    intro v y hv hn hp x hx
    by_cases e : v = st
    · subst e
      rw [chg_0]; omega
    · cases hu : fr v with
      | none => exact absurd hu hn
      | some u =>
        have := (T.2.2 v hv e u hu).2.2.1
        omega
  | succ n ih =>
    intro v y hv hn hp x hx
    by_cases e : v = st
    · subst e
      rw [chg_0]; omega
    · cases hu : fr v with
      | none => exact absurd hu hn
      | some u =>
        obtain ⟨t1, t2, t3, t4⟩ := T.2.2 v hv e u hu
        obtain ⟨i, j, hi, hj, c1, c2⟩ := ok_ends t4 t1 hv
        rw [chg_s e hu, ih u _ t1 t2 (by omega) x hx, c1, nS_up hi hj hx]
        have sv : sg ls md a v = - sg ls md a u := by
          unfold sg
          rcases c2 with ⟨rfl, rfl⟩ | ⟨rfl, rfl⟩
          · rw [decide_eq_false (show ¬ ls + j < ls by omega), decide_eq_true hi]
            cases md
            · rw [if_pos rfl, if_neg (by decide)]
            · rw [if_neg (by decide), if_pos rfl]; omega
          · rw [decide_eq_false (show ¬ ls + j < ls by omega), decide_eq_true hi]
            cases md
            · rw [if_neg (by decide), if_pos rfl]; omega
            · rw [if_pos rfl, if_neg (by decide)]
        rw [sv]
        by_cases xu : x = u
        · have xv : ¬ x = v := by omega
          rw [if_pos (by omega), if_pos xu, if_neg xv]; omega
        · by_cases xv : x = v
          · rw [if_pos (by omega), if_neg xu, if_pos xv]; omega
          · rw [if_neg (by omega), if_neg xu, if_neg xv]; omega
/-- enough rows on a way -/
def Enf (ls cs : Nat) (md : Bool) (a : Int) (st : Nat) (fr : Nat → Option Nat) (y0 : Nat → Int) : Nat → Nat → Prop
  | 0, _ => True
  | n + 1, v => v = st ∨ ∀ u : Nat, fr v = some u → (decide (u < ls) = md → a ≤ y0 (cb ls cs u v)) ∧ Enf ls cs md a st fr y0 n u
theorem chg_nn {ls cs q st : Nat} {out : Nat → Bool} {y0 : Nat → Int} {md : Bool} {a : Int} {fr : Nat → Option Nat} {ps : Nat → Nat} (ha : 0 ≤ a) (T : Tr ls cs q out y0 md st fr ps) : ∀ (n v : Nat) (y : Nat → Int), v < ls + cs → fr v ≠ none → ps v ≤ n → Enf ls cs md a st fr y0 n v → (∀ c : Nat, c < ls * cs → 0 ≤ y c) → (∀ w u : Nat, w < ls + cs → w ≠ st → fr w = some u → ps w ≤ ps v → y (cb ls cs u w) = y0 (cb ls cs u w)) → ∀ c : Nat, c < ls * cs → 0 ≤ chg ls cs md a st fr n v y c := by
  intro n
  induction n with
  | zero =>
    intro v y hv hn hp E hy A c hc
    exact hy c hc
  | succ n ih =>
    intro v y hv hn hp E hy A c hc
    by_cases e : v = st
    · subst e
      rw [chg_0]; exact hy c hc
    · cases hu : fr v with
      | none => exact absurd hu hn
      | some u =>
        obtain ⟨t1, t2, t3, t4⟩ := T.2.2 v hv e u hu
        obtain ⟨i, j, hi, hj, c1, c2⟩ := ok_ends t4 t1 hv
        obtain ⟨E1, E2⟩ := (E.resolve_left e) u hu
        rw [chg_s e hu]
        refine ih u _ t1 t2 (by omega) E2 (fun c hc => ?_) (fun w u' hw hws hwu hps => ?_) c hc
        · have h0 := hy c hc
          unfold upA
          by_cases ec : c = cb ls cs u v
          · rw [if_pos ec, ec]
            have h1 := A v u hv e hu (Nat.le_refl _)
            rw [h1]
            rw [ec, h1] at h0
            unfold sg
            by_cases g : decide (u < ls) = md
            · rw [if_pos g]
              have := E1 g
              omega
            · rw [if_neg g]; omega
          · rw [if_neg ec]; exact h0
        · have ne : cb ls cs u' w ≠ cb ls cs u v := by
            intro ee
            obtain ⟨s1, s2, s3, s4⟩ := T.2.2 w hw hws u' hwu
            obtain ⟨i', j', hi', hj', c1', c2'⟩ := ok_ends s4 s1 hw
            rw [c1, c1'] at ee
            obtain ⟨e1, e2⟩ := cell_inj hj' hj ee
            subst e1
            subst e2
            rcases c2 with ⟨a1, a2⟩ | ⟨a1, a2⟩
            · rcases c2' with ⟨b1, b2⟩ | ⟨b1, b2⟩
              · have : w = v := by omega
                subst this; omega
              · have : w = u := by omega
                subst this
                have : u' = v := by omega
                subst this; omega
            · rcases c2' with ⟨b1, b2⟩ | ⟨b1, b2⟩
              · have : w = u := by omega
                subst this
                have : u' = v := by omega
                subst this; omega
              · have : w = v := by omega
                subst this; omega
          unfold upA
          rw [if_neg ne]
          exact A w u' hw hws hwu (by omega)
theorem chg_out {ls cs q st : Nat} {out : Nat → Bool} {y0 : Nat → Int} {md : Bool} {a : Int} {fr : Nat → Option Nat} {ps : Nat → Nat} (T : Tr ls cs q out y0 md st fr ps) : ∀ (n v : Nat) (y : Nat → Int), v < ls + cs → fr v ≠ none → ∀ c : Nat, (out c = false ∨ c = q ∨ ls * cs ≤ c) → chg ls cs md a st fr n v y c = y c := by
  intro n
  induction n with
  | zero => intro v y hv hn c hc; rfl
  | succ n ih =>
    intro v y hv hn c hc
    by_cases e : v = st
    · subst e
      rw [chg_0]
    · cases hu : fr v with
      | none => exact absurd hu hn
      | some u =>
        obtain ⟨t1, t2, t3, t4⟩ := T.2.2 v hv e u hu
        obtain ⟨i, j, hi, hj, c1, c2⟩ := ok_ends t4 t1 hv
        have hcl := cell_lt hi hj
        rw [chg_s e hu, ih u _ t1 t2 c hc]
        unfold okF at t4
        rw [decide_eq_true_eq] at t4
        unfold upA
        rw [if_neg]
        intro ec
        rcases hc with h | h | h
        · rw [ec, t4.2.2.1] at h; cases h
        · exact t4.2.1 (by rw [← ec, h])
        · rw [ec, c1] at h; omega

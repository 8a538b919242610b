/-! the reference's search for values -/
def Rmn (m : Nat) (h h' : MHp) : Prop := Rs m h h' ∧ hI h' = hI h ∧ ∀ c : Nat, c ≠ m + 14 → hAI h' c = hAI h c
theorem Rmn.rf {m : Nat} {h : MHp} : Rmn m h h := ⟨Rs.rf, rfl, fun _ _ => rfl⟩
theorem Rmn.tr {m : Nat} {h h1 h2 : MHp} (A : Rmn m h h1) (B : Rmn m h1 h2) : Rmn m h h2 := ⟨A.1.tr B.1, B.2.1.trans A.2.1, fun c hc => (B.2.2 c hc).trans (A.2.2 c hc)⟩
theorem Rmn.w {m : Nat} {h : MHp} (g : Nat → Int32) : Rmn m h (sAI h (m + 14) g) := ⟨Rs.AI 14 g (by decide), rfl, fun c hc => by rw [e_sAI, if_neg hc]⟩
theorem sm_of (f : Nat) : Int32.ofNat f + (-1) = Int32.ofNat f - 1 := (Int32.sub_eq_add_neg _ _).symm
theorem sp_of (f : Nat) : Int32.ofNat (f + 1) - 1 = Int32.ofNat f := by rw [← s1_of, Int32.add_sub_cancel]
theorem nlt0 {f : Nat} (h : f < 2147483648) : ¬ Int32.ofNat f < 0 := Int32.not_lt.mpr (by
  rw [show (0 : Int32) = Int32.ofNat 0 from rfl, le_of (by omega) h]; omega)
theorem i_b3 {lo b : Nat} {h : MHp} {B : Bk} (C : RB lo h b B) : hR h b 3 = some (b + 2) ∧ hK h (b + 2) = 20 ∧ hN h (b + 2) = 6 := by
  obtain ⟨⟨i1, i2, i3, i4, i5, i6, i7, i8, i9, i10, i11, i12, i13⟩, -⟩ := C
  exact ⟨i3, i7, i11⟩
theorem q_dec {m b n S : Nat} {A : AS} (hS : ∀ f : Nat, S.testBit f = true → f < bF (aB A)) : ∀ (f fu a : Nat) (h : MHp), RQ m b n h A → f ≤ bF (aB A) → a < pf (aB A) S f → pf (aB A) S f ≤ 100000 → f < fu → ∃ (v : Nat → Nat) (h1 : MHp), (∀ (k55 : MHp → Nat → Int32 → Option Nat → Int32 → Int32 → Option (Int32 × MHp)) (mn code : Int32), mX16_isMended_l76 k55 fu h m (Int32.ofNat S) (some (m + 14)) mn code (Int32.ofNat a) (Int32.ofNat f - 1) = if bB (aB A) (hAI h1 (m + 14)) < bN (aB A) then k55 h1 m (Int32.ofNat S) (some (m + 14)) mn (code + 1) else some (1, h1)) ∧ Rmn m h h1 ∧ (∀ g : Nat, g < f → S.testBit g = true → v g ≤ bT (aB A) g) ∧ cd (aB A) S v f = a ∧ ∀ j : Nat, hAI h1 (m + 14) j = if j < f ∧ S.testBit j = true then Int32.ofNat (v j) else hAI h (m + 14) j := by
  intro f
  induction f with
  | zero =>
    intro fu a h Q hf ha hp hfu
    obtain ⟨fu, rfl⟩ : ∃ g : Nat, fu = g + 1 := ⟨fu - 1, by omega⟩
    have L := Q.1.1
    obtain ⟨V, c1, c2, c3, c4, c5, c6, c7⟩ := id Q
    have e := q_brokenRow Q (k := m + 14) (qK14 L) (qN14 L)
    have b12 := c3.2.1
    have ha0 : a < 1 := ha
    refine ⟨fun _ => 0, h, fun k55 mn code => ?_, Rmn.rf, fun g hg => by omega, by rw [show a = 0 by omega]; rfl, fun j => by rw [if_neg (by omega)]⟩
    rw [mX16_isMended_l76, if_pos (show Int32.ofNat 0 - 1 < 0 by decide), b_gR, if_pos (qK0 L), c1, b_rcv, if_pos c2.1.1, e, o_bind]
    by_cases g : bB (aB A) (hAI h (m + 14)) < bN (aB A)
    · rw [if_pos g, if_pos g, if_neg (nm_of (by omega))]
    · rw [if_neg g, if_neg g, if_pos rfl]
  | succ f ih =>
    intro fu a h Q hf ha hp hfu
    obtain ⟨fu, rfl⟩ : ∃ g : Nat, fu = g + 1 := ⟨fu - 1, by omega⟩
    have L := Q.1.1
    obtain ⟨V, c1, c2, c3, c4, c5, c6, c7⟩ := id Q
    have w6 := c3.1
    have wT := c3.2.2.1 f (by omega)
    rw [pf_s] at ha hp
    by_cases s : S.testBit f = true
    · rw [if_pos s] at ha hp
      obtain ⟨t1, t2, t3⟩ := c2.2.2.2.1 f (by omega)
      have bf := bad_n (k := f) (n := 6) (by omega) (by omega)
      have clf : (Int32.ofNat f).toNatClampNeg = f := cl_of (by omega)
      have hp2 : pf (aB A) S f ≤ 100000 := Nat.le_trans (Nat.le_mul_of_pos_right _ (by omega)) hp
      have ha2 : a / (bT (aB A) f + 1) < pf (aB A) S f := (Nat.div_lt_iff_lt_mul (by omega)).mpr ha
      obtain ⟨X, hX⟩ : ∃ X : MHp, X = sAI h (m + 14) (va_up (hAI h (m + 14)) f (Int32.ofNat (a % (bT (aB A) f + 1)))) := ⟨_, rfl⟩
      have SX : Rmn m h X := by rw [hX]; exact Rmn.w _
      have QX := Q.sc SX.1
      have LX := QX.1.1
      obtain ⟨V', d1, d2, d3, -⟩ := id QX
      obtain ⟨u1, u2, u3⟩ := d2.2.2.2.1 f (by omega)
      obtain ⟨v, h1, e1, R1, v1, v2, v3⟩ := ih fu (a / (bT (aB A) f + 1)) X QX (by omega) ha2 hp2 (by omega)
      have nzT : ¬ Int32.ofNat (bT (aB A) f + 1) = 0 := by
        rw [show (0 : Int32) = Int32.ofNat 0 from rfl, eq_of (by omega) (by omega)]; omega
      have s0 : ¬ (((Int32.ofNat S >>> (Int32.ofNat f &&& 31)) &&& 1) = 0) := by rw [b0_N (by omega), s]; decide
      have bq := i_b3 c2
      have bq2 := i_b3 d2
      refine ⟨va_up v f (a % (bT (aB A) f + 1)), h1, fun k55 mn code => ?_, SX.tr R1, fun g hg hs => ?_, ?_, fun j => ?_⟩
      · rw [sp_of, mX16_isMended_l76, if_neg (nlt0 (by omega)), if_neg s0, b_gR, if_pos (qK0 L), c1, b_gR, if_pos c2.1.1, bq.1, b_gAI, if_pos bq.2.1, bq.2.2, if_neg bf, clf, t2, s1_of, nz, if_neg nzT, o_bind, b_pAI, if_pos (qK14 L), qN14 L, if_neg bf, clf, md_of (by omega) (by omega), ← hX, b_gR, if_pos (qK0 LX), d1, b_gR, if_pos d2.1.1, bq2.1, b_gAI, if_pos bq2.2.1, bq2.2.2, if_neg bf, clf, u2, s1_of, nz, if_neg nzT, o_bind, dv_of (by omega) (by omega), mX16_isMended_b129, sm_of, e1]
      · rw [e_up]
        by_cases e : g = f
        · rw [if_pos e, e]
          have := Nat.mod_lt a (show bT (aB A) f + 1 > 0 by omega)
          omega
        · rw [if_neg e]; exact v1 g (by omega) hs
      · rw [cd_s, if_pos s, cd_congr (w := v) f (fun g hg _ => by rw [e_up, if_neg (by omega)]), v2, e_up, if_pos rfl]
        have := Nat.div_add_mod a (bT (aB A) f + 1)
        rw [Nat.mul_comm] at this
        exact this
      · rw [v3, hX, e_sAI, if_pos rfl, e_up, e_up]
        by_cases e : j = f
        · subst e
          rw [if_neg (fun hh => Nat.lt_irrefl _ hh.1), if_pos rfl, if_pos ⟨Nat.lt_succ_self _, s⟩, if_pos rfl]
        · rw [if_neg e, if_neg e]
          by_cases g : j < f ∧ S.testBit j = true
          · rw [if_pos g, if_pos ⟨by omega, g.2⟩]
          · rw [if_neg g, if_neg (fun hh => g ⟨by omega, hh.2⟩)]
    · rw [if_neg s] at ha hp
      have s' : S.testBit f = false := by simpa using s
      obtain ⟨v, h1, e1, R1, v1, v2, v3⟩ := ih fu a h Q (by omega) ha hp (by omega)
      have s0 : (((Int32.ofNat S >>> (Int32.ofNat f &&& 31)) &&& 1) = 0) := by rw [b0_N (by omega)]; exact s'
      refine ⟨v, h1, fun k55 mn code => ?_, R1, fun g hg hs => v1 g ?_ hs, by rw [cd_s, if_neg s]; exact v2, fun j => ?_⟩
      · rw [sp_of, mX16_isMended_l76, if_neg (nlt0 (by omega)), if_pos s0, mX16_isMended_b129, sm_of, e1]
      · by_cases e : g = f
        · subst e; exact absurd hs s
        · omega
      · rw [v3]
        by_cases g : j < f ∧ S.testBit j = true
        · rw [if_pos g, if_pos ⟨by omega, g.2⟩]
        · rw [if_neg g, if_neg (fun hh => g ⟨by
            by_cases e : j = f
            · subst e; exact absurd hh.2 s
            · omega, hh.2⟩)]
theorem mixW_over {S : Nat} {x g : Nat → Int32} {u v : Nat → Nat} (h : ∀ j : Nat, g j = mixW S x u j) (j : Nat) : (if S.testBit j = true then Int32.ofNat (v j) else g j) = mixW S x v j := by
  unfold mixW
  by_cases s : S.testBit j = true
  · rw [if_pos s, if_pos s]
  · rw [if_neg s, if_neg s, h j]
    unfold mixW
    rw [if_neg s]
theorem mixW_congr {S : Nat} {x : Nat → Int32} {u v : Nat → Nat} {n : Nat} (h : ∀ j : Nat, j < n → S.testBit j = true → u j = v j) (j : Nat) (hj : j < n) : mixW S x u j = mixW S x v j := by
  unfold mixW
  by_cases s : S.testBit j = true
  · rw [if_pos s, if_pos s, h j hj s]
  · rw [if_neg s, if_neg s]
theorem q_codes {m b n S : Nat} {A : AS} {x : Nat → Int32} (hS : ∀ f : Nat, S.testBit f = true → f < bF (aB A)) (hp : pf (aB A) S (bF (aB A)) ≤ 100000) : ∀ (q k fu : Nat) (h : MHp), RQ m b n h A → (∃ u : Nat → Nat, ∀ j : Nat, hAI h (m + 14) j = mixW S x u j) ∨ hAI h (m + 14) = x → (∀ u : Nat → Nat, GoodV (aB A) x S u → k ≤ cd (aB A) S u (bF (aB A))) → k + q = pf (aB A) S (bF (aB A)) → q < fu → ∃ h1 : MHp, Rmn m h h1 ∧ ((∃ v : Nat → Nat, mX16_isMended_l55 fu h m (Int32.ofNat S) (some (m + 14)) (Int32.ofNat (pf (aB A) S (bF (aB A)))) (Int32.ofNat k) = some (1, h1) ∧ MinV (aB A) x S v ∧ ∀ j : Nat, hAI h1 (m + 14) j = mixW S x v j) ∨ mX16_isMended_l55 fu h m (Int32.ofNat S) (some (m + 14)) (Int32.ofNat (pf (aB A) S (bF (aB A)))) (Int32.ofNat k) = some (0, h1) ∧ ∀ u : Nat → Nat, ¬ GoodV (aB A) x S u) := by
  intro q
  induction q with
  | zero =>
    intro k fu h Q hx hk hq hfu
    obtain ⟨fu, rfl⟩ : ∃ g : Nat, fu = g + 1 := ⟨fu - 1, by omega⟩
    refine ⟨h, Rmn.rf, Or.inr ⟨?_, fun u hu => ?_⟩⟩
    · rw [mX16_isMended_l55, if_pos (by rw [le_of (by omega) (by omega)]; omega)]
    · have h1 := hk u hu
      have h2 := cd_pf (bF (aB A)) hu.1
      omega
  | succ q ih =>
    intro k fu h Q hx hk hq hfu
    obtain ⟨fu, rfl⟩ : ∃ g : Nat, fu = g + 1 := ⟨fu - 1, by omega⟩
    have L := Q.1.1
    obtain ⟨V, c1, c2, c3, c4, c5, c6, c7⟩ := id Q
    have f6 := c3.1
    obtain ⟨v, h1, e1, R1, v1, v2, v3⟩ := q_dec hS (bF (aB A)) FUEL k h Q (Nat.le_refl _) (by omega) hp (by unfold FUEL; omega)
    have x1 : ∀ j : Nat, hAI h1 (m + 14) j = mixW S x v j := fun j => by
      rw [v3]
      by_cases s : S.testBit j = true
      · rw [if_pos ⟨hS j s, s⟩]
        unfold mixW
        rw [if_pos s]
      · rw [if_neg (fun hh => s hh.2)]
        unfold mixW
        rw [if_neg s]
        rcases hx with ⟨u, hx⟩ | hx
        · rw [hx]
          unfold mixW
          rw [if_neg s]
        · rw [hx]
    have base : mX16_isMended_l55 (fu + 1) h m (Int32.ofNat S) (some (m + 14)) (Int32.ofNat (pf (aB A) S (bF (aB A)))) (Int32.ofNat k) = if bB (aB A) (hAI h1 (m + 14)) < bN (aB A) then mX16_isMended_l55 fu h1 m (Int32.ofNat S) (some (m + 14)) (Int32.ofNat (pf (aB A) S (bF (aB A)))) (Int32.ofNat k + 1) else some (1, h1) := by
      rw [mX16_isMended_l55, if_neg (by rw [le_of (by omega) (by omega)]; omega), b_gR, if_pos (qK0 L), c1, b_gI, if_pos c2.1.1, c2.2.1, e1]
    have ex : hAI h1 (m + 14) = mixW S x v := funext x1
    by_cases g : bB (aB A) (hAI h1 (m + 14)) < bN (aB A)
    · obtain ⟨h2, R2, r2⟩ := ih (k + 1) fu h1 (Q.sc R1.1) (Or.inl ⟨v, x1⟩) (fun u hu => by
        have h1 := hk u hu
        apply Nat.succ_le_of_lt
        apply Nat.lt_of_le_of_ne h1
        intro e
        have uv := cd_inj (bF (aB A)) hu.1 v1 (by rw [← e, v2])
        have := hu.2
        rw [bB_congr c3 (fun j hj => mixW_congr (x := x) uv j hj), ← ex] at this
        omega) (by omega) (by omega)
      refine ⟨h2, R1.tr R2, ?_⟩
      rw [base, if_pos g, s1_of]
      exact r2
    · refine ⟨h1, R1, Or.inl ⟨v, by rw [base, if_neg g], ⟨⟨v1, ?_⟩, fun w hw => ?_⟩, x1⟩⟩
      · have := bB_le (aB A) (hAI h1 (m + 14))
        rw [← ex]; omega
      · rw [v2]; exact hk w hw
theorem q_mdp {m b n S : Nat} {A : AS} {h : MHp} (Q : RQ m b n h A) (hp : spT (aB A) (bF (aB A)) ≤ 100000) : ∀ (q f fu : Nat), f + q = bF (aB A) → q < fu → mX16_isMended_l5 fu h m (Int32.ofNat S) (some (m + 14)) (Int32.ofNat (pf (aB A) S f)) (Int32.ofNat f) = mX16_isMended_l55 FUEL h m (Int32.ofNat S) (some (m + 14)) (Int32.ofNat (pf (aB A) S (bF (aB A)))) 0 := by
  intro q
  have L := Q.1.1
  obtain ⟨V, c1, c2, c3, c4, c5, c6, c7⟩ := id Q
  have f6 := c3.1
  induction q with
  | zero =>
    intro f fu hf hfu
    obtain ⟨fu, rfl⟩ : ∃ g : Nat, fu = g + 1 := ⟨fu - 1, by omega⟩
    have : f = bF (aB A) := by omega
    subst this
    rw [mX16_isMended_l5, b_gR, if_pos (qK0 L), c1, b_gI, if_pos c2.1.1, c2.2.1, if_pos (by rw [le_of (by omega) (by omega)]; omega)]
  | succ q ih =>
    intro f fu hf hfu
    obtain ⟨fu, rfl⟩ : ∃ g : Nat, fu = g + 1 := ⟨fu - 1, by omega⟩
    have bf := bad_n (k := f) (n := 6) (by omega) (by omega)
    have clf : (Int32.ofNat f).toNatClampNeg = f := cl_of (by omega)
    obtain ⟨t1, t2, t3⟩ := c2.2.2.2.1 f (by omega)
    have bq := i_b3 c2
    have e := ih (f + 1) fu (by omega) (by omega)
    rw [pf_s] at e
    by_cases s : S.testBit f = true
    · rw [if_pos s, Int32.ofNat_mul] at e
      rw [mX16_isMended_l5, b_gR, if_pos (qK0 L), c1, b_gI, if_pos c2.1.1, c2.2.1, if_neg (by rw [le_of (by omega) (by omega)]; omega), if_pos (by rw [b1_N (by omega)]; exact s), b_gR, if_pos (qK0 L), c1, b_gR, if_pos c2.1.1, bq.1, b_gAI, if_pos bq.2.1, bq.2.2, if_neg bf, clf, t2, s1_of, mX16_isMended_b44, s1_of, e]
    · rw [if_neg s] at e
      rw [mX16_isMended_l5, b_gR, if_pos (qK0 L), c1, b_gI, if_pos c2.1.1, c2.2.1, if_neg (by rw [le_of (by omega) (by omega)]; omega), if_neg (by rw [b1_N (by omega)]; exact s), mX16_isMended_b44, s1_of, Int32.mul_one, e]
/-- the reference's isMended: the least values that do, or none -/
theorem q_isMended {m b n S : Nat} {A : AS} {h : MHp} (Q : RQ m b n h A) (hS : ∀ f : Nat, S.testBit f = true → f < bF (aB A)) (hp : spT (aB A) (bF (aB A)) ≤ 20000) : ∃ h1 : MHp, Rmn m h h1 ∧ ((∃ v : Nat → Nat, mX16_isMended h m (Int32.ofNat S) (some (m + 14)) = some (1, h1) ∧ MinV (aB A) (hAI h (m + 14)) S v ∧ ∀ j : Nat, hAI h1 (m + 14) j = mixW S (hAI h (m + 14)) v j) ∨ mX16_isMended h m (Int32.ofNat S) (some (m + 14)) = some (0, h1) ∧ ∀ u : Nat → Nat, ¬ GoodV (aB A) (hAI h (m + 14)) S u) := by
  have p3 := pf_sp (B := aB A) (S := S) (bF (aB A))
  have f6 := Q.2.2.2.1.1
  have e0 : mX16_isMended h m (Int32.ofNat S) (some (m + 14)) = mX16_isMended_l55 FUEL h m (Int32.ofNat S) (some (m + 14)) (Int32.ofNat (pf (aB A) S (bF (aB A)))) (Int32.ofNat 0) := by
    have e := q_mdp (S := S) Q (by omega) (bF (aB A)) 0 FUEL (by omega) (by unfold FUEL; omega)
    rw [mX16_isMended, show (Int32.ofNat 0) = (0 : Int32) from rfl, ← e, show pf (aB A) S 0 = 1 from rfl]
    rfl
  obtain ⟨h1, R1, r1⟩ := q_codes (x := hAI h (m + 14)) hS (by omega) (pf (aB A) S (bF (aB A))) 0 FUEL h Q (Or.inr rfl) (fun _ _ => Nat.zero_le _) (by omega) (by unfold FUEL; omega)
  rw [← e0] at r1
  exact ⟨h1, R1, r1⟩

/-! the reference's sets -/
theorem q_costl {m b n S : Nat} {A : AS} {h : MHp} (Q : RQ m b n h A) : ∀ (q f fu : Nat), f + q = bF (aB A) → q < fu → mX16_costOf_l4 h fu m (Int32.ofNat S) (Int32.ofNat (cS (aB A) S f)) (Int32.ofNat f) = some (Int32.ofNat (cS (aB A) S (bF (aB A)))) := by
  intro q
  have L := Q.1.1
  obtain ⟨V, c1, c2, c3, c4, c5, c6, c7⟩ := id Q
  obtain ⟨⟨i1, i2, i3, i4, i5, i6, i7, i8, i9, i10, i11, i12, i13⟩, -⟩ := id c2
  have f6 := c3.1
  induction q with
  | zero =>
    intro f fu hf hfu
    obtain ⟨fu, rfl⟩ : ∃ g : Nat, fu = g + 1 := ⟨fu - 1, by omega⟩
    have : f = bF (aB A) := by omega
    subst this
    rw [mX16_costOf_l4, b_gR, if_pos (qK0 L), c1, b_gI, if_pos i1, c2.2.1, if_pos (by rw [le_of (by omega) (by omega)]; omega)]
  | succ q ih =>
    intro f fu hf hfu
    obtain ⟨fu, rfl⟩ : ∃ g : Nat, fu = g + 1 := ⟨fu - 1, by omega⟩
    have bf := bad_n (k := f) (n := 6) (by omega) (by omega)
    have clf : (Int32.ofNat f).toNatClampNeg = f := cl_of (by omega)
    obtain ⟨t1, t2, t3⟩ := c2.2.2.2.1 f (by omega)
    have e := ih (f + 1) fu (by omega) (by omega)
    rw [cS_s] at e
    by_cases s : S.testBit f = true
    · rw [if_pos s, Int32.ofNat_add] at e
      rw [mX16_costOf_l4, b_gR, if_pos (qK0 L), c1, b_gI, if_pos i1, c2.2.1, if_neg (by rw [le_of (by omega) (by omega)]; omega), if_pos (by rw [b1_N (by omega)]; exact s), b_gR, if_pos (qK0 L), c1, b_gR, if_pos i1, i4, b_gAI, if_pos i8, i12, if_neg bf, clf, t3, mX16_costOf_b38, s1_of, e]
    · rw [if_neg s, Nat.add_zero] at e
      rw [mX16_costOf_l4, b_gR, if_pos (qK0 L), c1, b_gI, if_pos i1, c2.2.1, if_neg (by rw [le_of (by omega) (by omega)]; omega), if_neg (by rw [b1_N (by omega)]; exact s), mX16_costOf_b38, s1_of, Int32.add_zero, e]
theorem q_costOf {m b n S : Nat} {A : AS} {h : MHp} (Q : RQ m b n h A) : mX16_costOf h m (Int32.ofNat S) = some (Int32.ofNat (cS (aB A) S (bF (aB A)))) := by
  have f6 := Q.2.2.2.1.1
  exact q_costl Q (bF (aB A)) 0 FUEL (by omega) (by unfold FUEL; omega)
/-- now's values put into the tried ones -/
theorem q_again {m b n : Nat} {A : AS} {k : MHp → Nat → Int32 → Int32 → Int32 → Option (Int32 × MHp)} {v1 v2 v3 : Int32} : ∀ (q f fu : Nat) (h : MHp), RQ m b n h A → (∀ j : Nat, j < f → hAI h (m + 14) j = hAI h (m + 13) j) → f + q = bF (aB A) → q < fu → ∃ h1 : MHp, mX16_mend_l173 k fu h m v1 v2 v3 (Int32.ofNat f) = (mX16_isMended h1 m v3 (some (m + 14))).bind (fun r6 => if r6.1 = 0 then mX16_mend_b219 k r6.2 m v1 v2 v3 else mX16_mend_b219 k r6.2 m v1 v3 v3) ∧ Rmn m h h1 ∧ ∀ j : Nat, j < bF (aB A) → hAI h1 (m + 14) j = hAI h (m + 13) j := by
  intro q
  induction q with
  | zero =>
    intro f fu h Q hj hf hfu
    obtain ⟨fu, rfl⟩ : ∃ g : Nat, fu = g + 1 := ⟨fu - 1, by omega⟩
    have L := Q.1.1
    obtain ⟨V, c1, c2, c3, c4, c5, c6, c7⟩ := id Q
    have f6 := c3.1
    refine ⟨h, ?_, Rmn.rf, fun j hj2 => hj j (by omega)⟩
    rw [mX16_mend_l173, b_gR, if_pos (qK0 L), c1, b_gI, if_pos c2.1.1, c2.2.1, if_pos (by rw [le_of (by omega) (by omega)]; omega), b_gR, if_pos (qK0 L), qR30 L, b_rcv, if_pos (qK0 L)]
  | succ q ih =>
    intro f fu h Q hj hf hfu
    obtain ⟨fu, rfl⟩ : ∃ g : Nat, fu = g + 1 := ⟨fu - 1, by omega⟩
    have L := Q.1.1
    obtain ⟨V, c1, c2, c3, c4, c5, c6, c7⟩ := id Q
    have f6 := c3.1
    have bf := bad_n (k := f) (n := 6) (by omega) (by omega)
    have clf : (Int32.ofNat f).toNatClampNeg = f := cl_of (by omega)
    obtain ⟨X, hX⟩ : ∃ X : MHp, X = sAI h (m + 14) (va_up (hAI h (m + 14)) f (hAI h (m + 13) f)) := ⟨_, rfl⟩
    have SX : Rmn m h X := by rw [hX]; exact Rmn.w _
    have x13 : hAI X (m + 13) = hAI h (m + 13) := SX.2.2 _ (by omega)
    obtain ⟨h1, e1, R1, r1⟩ := ih (f + 1) fu X (Q.sc SX.1) (fun j hj2 => by
      rw [x13, hX, e_sAI, if_pos rfl, e_up]
      by_cases e : j = f
      · rw [if_pos e, e]
      · rw [if_neg e]; exact hj j (by omega)) (by omega) (by omega)
    refine ⟨h1, ?_, SX.tr R1, fun j hj2 => by rw [r1 j hj2, x13]⟩
    rw [mX16_mend_l173, b_gR, if_pos (qK0 L), c1, b_gI, if_pos c2.1.1, c2.2.1, if_neg (by rw [le_of (by omega) (by omega)]; omega), b_gR, if_pos (qK0 L), qR30 L, b_gR, if_pos (qK0 L), qR29 L, b_gAI, if_pos (qK13 L), qN13 L, if_neg bf, clf, b_pAI, if_pos (qK14 L), qN14 L, if_neg bf, clf, ← hX, s1_of, e1]
/-- of the sets before s the least that mends, or none -/
def Lr (B : Bk) (x : Nat → Int32) (s M : Nat) : Prop := (M = 0 ∧ ∀ T : Nat, 1 ≤ T → T < s → ¬ Mn B x T) ∨ 1 ≤ M ∧ M < s ∧ Mn B x M ∧ ∀ T : Nat, 1 ≤ T → T < s → Mn B x T → kM B M ≤ kM B T
theorem q_msl {m b n : Nat} {A : AS} {v1 : Int32} {x : Nat → Int32} (sp : spT (aB A) (bF (aB A)) ≤ 20000) : ∀ (q s fu M : Nat) (h : MHp), RQ m b n h A → hAI h (m + 13) = x → Lr (aB A) x s M → 1 ≤ s → s + q = 2 ^ bF (aB A) → q < fu → ∃ (N : Nat) (h1 : MHp), mX16_mend_l78 fu h m v1 (Int32.ofNat M) (Int32.ofNat s) = (if N = 0 then (mX16_refused h1 m 6).bind (fun r53 => some (r53.1, r53.2)) else mX16_mend_l245 FUEL h1 m v1 (Int32.ofNat N) (-2) 0 0) ∧ Rmn m h h1 ∧ Lr (aB A) x (2 ^ bF (aB A)) N := by
  intro q
  induction q with
  | zero =>
    intro s fu M h Q hx I h1 hq hfu
    obtain ⟨fu, rfl⟩ : ∃ g : Nat, fu = g + 1 := ⟨fu - 1, by omega⟩
    have L := Q.1.1
    obtain ⟨V, c1, c2, c3, c4, c5, c6, c7⟩ := id Q
    have p6 := p2_64 c3.1
    have es : s = 2 ^ bF (aB A) := by omega
    have M64 : M < 64 := by rcases I with I | I <;> omega
    refine ⟨M, h, ?_, Rmn.rf, es ▸ I⟩
    rw [mX16_mend_l78, b_gR, if_pos (qK0 L), c1, b_gI, if_pos c2.1.1, c2.2.1, shl_N c3.1, if_pos (by rw [le_of (by omega) (by omega)]; omega)]
    by_cases z : M = 0
    · rw [if_pos z, z, if_pos (show Int32.ofNat 0 = 0 from rfl), b_rcv, if_pos (qK0 L)]
    · rw [if_neg z, if_neg (by rw [show (0 : Int32) = Int32.ofNat 0 from rfl, eq_of (by omega) (by omega)]; exact z)]
  | succ q ih =>
    intro s fu M h Q hx I h1 hq hfu
    obtain ⟨fu, rfl⟩ : ∃ g : Nat, fu = g + 1 := ⟨fu - 1, by omega⟩
    have L := Q.1.1
    obtain ⟨V, c1, c2, c3, c4, c5, c6, c7⟩ := id Q
    have p6 := p2_64 c3.1
    have f6 := c3.1
    have M64 : M < 64 := by rcases I with I | I <;> omega
    have s64 : s < 64 := by omega
    have a1 := cS_le (B := aB A) (S := s) (bF (aB A)) (fun f hf => (c3.2.2.1 f hf).2.2.2)
    have a2 := cS_le (B := aB A) (S := M) (bF (aB A)) (fun f hf => (c3.2.2.1 f hf).2.2.2)
    have b1 := sumB_le 12 s
    have b2 := sumB_le 12 M
    obtain ⟨d1, d2, d3⟩ := dif_N (a := cS (aB A) s (bF (aB A))) (b := cS (aB A) M (bF (aB A))) (by omega) (by omega)
    obtain ⟨f1, f2, f3⟩ := dif_N (a := sumB 12 s) (b := sumB 12 M) (by omega) (by omega)
    have k := kM_lt (B := aB A) s M
    have zM : (Int32.ofNat M = 0) = (M = 0) := by rw [show (0 : Int32) = Int32.ofNat 0 from rfl, eq_of (by omega) (by omega)]
    have base : mX16_mend_l78 (fu + 1) h m v1 (Int32.ofNat M) (Int32.ofNat s) = if M = 0 ∨ kM (aB A) s < kM (aB A) M then mX16_mend_b155 (mX16_mend_l78 fu) h m v1 (Int32.ofNat M) (Int32.ofNat s) else mX16_mend_b159 (mX16_mend_l78 fu) h m v1 (Int32.ofNat M) (Int32.ofNat s) := by
      rw [mX16_mend_l78, b_gR, if_pos (qK0 L), c1, b_gI, if_pos c2.1.1, c2.2.1, shl_N c3.1, if_neg (by rw [le_of (by omega) (by omega)]; omega), b_rcv, if_pos (qK0 L), q_costOf Q, o_bind, b_rcv, if_pos (qK0 L), q_costOf Q, o_bind, q_bitsN h (by omega), o_bind, q_bitsN h (by omega), o_bind]
      by_cases z : M = 0
      · rw [if_pos (by rw [zM]; exact z), if_pos (Or.inl z)]
      · rw [if_neg (by rw [zM]; exact z)]
        by_cases e1 : cS (aB A) s (bF (aB A)) < cS (aB A) M (bF (aB A))
        · rw [if_pos (by rw [d2]; exact e1), if_pos (Or.inr (k.mpr (Or.inl e1)))]
        · rw [if_neg (by rw [d2]; exact e1)]
          by_cases e2 : cS (aB A) s (bF (aB A)) = cS (aB A) M (bF (aB A))
          · rw [if_pos (by rw [d1]; exact e2)]
            by_cases e3 : sumB 12 s < sumB 12 M
            · rw [if_pos (by rw [f2]; exact e3), if_pos (Or.inr (k.mpr (Or.inr ⟨e2, Or.inl e3⟩)))]
            · rw [if_neg (by rw [f2]; exact e3)]
              by_cases e4 : sumB 12 s = sumB 12 M
              · rw [if_pos (by rw [f1]; exact e4)]
                by_cases e5 : rv6 s ≤ rv6 M
                · rw [if_pos ((rv_all s s64 M M64).mpr e5), if_neg (fun hh => by
                    rcases hh with hh | hh
                    · exact z hh
                    · have := k.mp hh; omega)]
                · rw [if_neg (fun hh => e5 ((rv_all s s64 M M64).mp hh)), if_pos (Or.inr (k.mpr (Or.inr ⟨e2, Or.inr ⟨e4, e5⟩⟩)))]
              · rw [if_neg (by rw [f1]; exact e4), if_neg (fun hh => by
                  rcases hh with hh | hh
                  · exact z hh
                  · have := k.mp hh; omega)]
          · rw [if_neg (by rw [d1]; exact e2), if_neg (fun hh => by
              rcases hh with hh | hh
              · exact z hh
              · have := k.mp hh; omega)]
    clear k zM a1 a2 b1 b2 d1 d2 d3 f1 f2 f3
    by_cases g : M = 0 ∨ kM (aB A) s < kM (aB A) M
    · rw [if_pos g, mX16_mend_b155, mX16_mend_b160, if_neg n10] at base
      obtain ⟨h2, e2, R2, r2⟩ := q_again (k := mX16_mend_l78 fu) (v1 := v1) (v2 := Int32.ofNat M) (v3 := Int32.ofNat s) (bF (aB A)) 0 FUEL h Q (fun j hj => by omega) (by omega) (by unfold FUEL; omega)
      have e2' : mX16_mend_l173 (mX16_mend_l78 fu) FUEL h m v1 (Int32.ofNat M) (Int32.ofNat s) 0 = _ := e2
      rw [e2'] at base
      have Q2 := Q.sc R2.1
      obtain ⟨h3, R3, r3⟩ := q_isMended (S := s) Q2 (fun f hf => bit_lt (show s < 2 ^ bF (aB A) by omega) f hf) sp
      have Q3 := Q2.sc R3.1
      have x3 : hAI h3 (m + 13) = x := by rw [R3.2.2 _ (by omega), R2.2.2 _ (by omega), hx]
      have ex : ∀ f : Nat, f < bF (aB A) → hAI h2 (m + 14) f = x f := fun f hf => by rw [r2 f hf, hx]
      rcases r3 with ⟨v, e3, mv, -⟩ | ⟨e3, nv⟩
      · rw [e3, o_bind, if_neg n10, mX16_mend_b219, s1_of] at base
        have gv := mv.1.x c3 ex
        obtain ⟨N, h4, e4, R4, r4⟩ := ih (s + 1) fu s h3 Q3 x3 (Or.inr ⟨h1, by omega, ⟨v, gv⟩, fun T a d e => by
          by_cases q : T = s
          · rw [q]; exact Nat.le_refl _
          · rcases I with I | I
            · exact absurd e (I.2 T a (by omega))
            · have := I.2.2.2 T a (by omega) e
              rcases g with g | g
              · have := I.1; omega
              · omega⟩) (by omega) (by omega) (by omega)
        exact ⟨N, h4, by rw [base, e4], (R2.tr R3).tr R4, r4⟩
      · rw [e3, o_bind, if_pos rfl, mX16_mend_b219, s1_of] at base
        have nm : ¬ Mn (aB A) x s := fun hh => by
          obtain ⟨v, hv⟩ := hh
          exact nv v (hv.x c3 (fun f hf => (ex f hf).symm))
        obtain ⟨N, h4, e4, R4, r4⟩ := ih (s + 1) fu M h3 Q3 x3 (by
          rcases I with I | I
          · exact Or.inl ⟨I.1, fun T a d e => by
              by_cases q : T = s
              · exact nm (q ▸ e)
              · exact I.2 T a (by omega) e⟩
          · exact Or.inr ⟨I.1, by omega, I.2.2.1, fun T a d e => by
              by_cases q : T = s
              · exact absurd (q ▸ e) nm
              · exact I.2.2.2 T a (by omega) e⟩) (by omega) (by omega) (by omega)
        exact ⟨N, h4, by rw [base, e4], (R2.tr R3).tr R4, r4⟩
    · rw [if_neg g, mX16_mend_b159, mX16_mend_b160, if_pos rfl, mX16_mend_b219, s1_of] at base
      obtain ⟨N, h4, e4, R4, r4⟩ := ih (s + 1) fu M h Q hx (by
        rcases I with I | I
        · exact absurd (Or.inl I.1) g
        · exact Or.inr ⟨I.1, by omega, I.2.2.1, fun T a d e => by
            by_cases q : T = s
            · subst q
              exact Nat.le_of_not_lt (fun hh => g (Or.inr hh))
            · exact I.2.2.2 T a (by omega) e⟩) (by omega) (by omega) (by omega)
      exact ⟨N, h4, by rw [base, e4], R4, r4⟩
/-- the reference's sets whole -/
theorem q_sets {m b n : Nat} {A : AS} {v1 : Int32} {h : MHp} (sp : spT (aB A) (bF (aB A)) ≤ 20000) (Q : RQ m b n h A) : ∃ h1 : MHp, Rmn m h h1 ∧ ((∃ M : Nat, mX16_mend_l78 FUEL h m v1 0 1 = mX16_mend_l245 FUEL h1 m v1 (Int32.ofNat M) (-2) 0 0 ∧ IsMin (aB A) (hAI h (m + 13)) M) ∨ mX16_mend_l78 FUEL h m v1 0 1 = (mX16_refused h1 m 6).bind (fun r53 => some (r53.1, r53.2)) ∧ ∀ T : Nat, 1 ≤ T → T < 2 ^ bF (aB A) → ¬ Mn (aB A) (hAI h (m + 13)) T) := by
  have p6 := p2_64 Q.2.2.2.1.1
  have p1 : 1 ≤ 2 ^ bF (aB A) := Nat.one_le_two_pow
  obtain ⟨N, h1, e1, R1, r1⟩ := q_msl (v1 := v1) (x := hAI h (m + 13)) sp (2 ^ bF (aB A) - 1) 1 FUEL 0 h Q rfl (Or.inl ⟨rfl, fun T a d => by omega⟩) (Nat.le_refl _) (by omega) (by unfold FUEL; omega)
  have e1' : mX16_mend_l78 FUEL h m v1 0 1 = _ := e1
  refine ⟨h1, R1, ?_⟩
  rcases r1 with ⟨z, r⟩ | ⟨z, r2, r3, r4⟩
  · rw [if_pos z] at e1'
    exact Or.inr ⟨e1', r⟩
  · rw [if_neg (by omega)] at e1'
    exact Or.inl ⟨N, e1', z, r2, r3, r4⟩

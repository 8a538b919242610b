/-! the class's search, prepared and whole -/
theorem CB.t {h : MHp} {b k : Nat} {B : Bk} (C : CB h b B) (hk : k < bN B) {f : Nat} (hf : f < 6) : (((hI h (b + 5 + 4 * k) 4 >>> (Int32.ofNat f &&& 31)) &&& 1) = 0) = (mnB (bR B k) f = false) := by
  rw [mnB_f]
  exact propext ((C.2.2.2 k hk).2.2 f hf)
theorem c_pt1 {c b n S f sz : Nat} {B : Bk} (hf : f < 6) (hsz : sz ≤ 6) : ∀ (q k fu : Nat) (h : MHp), RG c b n h B → k + q = 12 → q < fu → ∃ h1 : MHp, (∀ k27 : MHp → Nat → Int32 → Int32 → Int32 → Option (Int32 × MHp), mX5_prepareTrial_l67 k27 fu h (c + 185) (Int32.ofNat S) (Int32.ofNat sz) (Int32.ofNat f) (Int32.ofNat k) = k27 h1 (c + 185) (Int32.ofNat S) (Int32.ofNat (sz + 1)) (Int32.ofNat (f + 1))) ∧ Sc c h h1 ∧ hI h1 = hI h ∧ (∀ a : Nat, a ≠ c + 190 → hAI h1 a = hAI h a) ∧ ∀ j : Nat, j < bN B → hAI h1 (c + 190) j = if k ≤ j ∧ mnB (bR B j) f = true then Int32.ofNat sz else hAI h (c + 190) j := by
  intro q
  induction q with
  | zero =>
    intro k fu h G hk hfu
    obtain ⟨fu, rfl⟩ : ∃ g : Nat, fu = g + 1 := ⟨fu - 1, by omega⟩
    have n12 := G.2.2.2.2.1.2.1
    refine ⟨h, fun k27 => ?_, Sc.rf, rfl, fun _ _ => rfl, fun j hj => ?_⟩
    · rw [mX5_prepareTrial_l67, if_pos (by rw [show (12 : Int32) = Int32.ofNat 12 from rfl, le_of (by omega) (by omega)]; omega), mX5_prepareTrial_b114, s1_of, s1_of]
    · rw [if_neg (by omega)]
  | succ q ih =>
    intro k fu h G hk hfu
    obtain ⟨fu, rfl⟩ : ∃ g : Nat, fu = g + 1 := ⟨fu - 1, by omega⟩
    obtain ⟨L, r1, r2, r3, r4, r5, r6⟩ := id G
    obtain ⟨i1, i2, i3, i4, i5, i6, i7, i8, i9, i10, i11, i12, i13, i14⟩ := G.ib
    have K := lK185 L
    have bk := bad_n (k := k) (n := 12) (by omega) (by omega)
    have clk : (Int32.ofNat k).toNatClampNeg = k := cl_of (by omega)
    obtain ⟨t1, t2⟩ := i14 k (by omega)
    have t21 := t2.1
    have base : ∀ k27 : MHp → Nat → Int32 → Int32 → Int32 → Option (Int32 × MHp), mX5_prepareTrial_l67 k27 (fu + 1) h (c + 185) (Int32.ofNat S) (Int32.ofNat sz) (Int32.ofNat f) (Int32.ofNat k) = (if ((hI h (b + 5 + 4 * k) 4 >>> (Int32.ofNat f &&& 31)) &&& 1) = 0 then mX5_prepareTrial_l67 k27 fu h (c + 185) (Int32.ofNat S) (Int32.ofNat sz) (Int32.ofNat f) (Int32.ofNat (k + 1)) else mX5_prepareTrial_l67 k27 fu (sAI h (c + 190) (va_up (hAI h (c + 190)) k (Int32.ofNat sz))) (c + 185) (Int32.ofNat S) (Int32.ofNat sz) (Int32.ofNat f) (Int32.ofNat (k + 1))) := fun k27 => by
      rw [mX5_prepareTrial_l67, if_neg (by rw [show (12 : Int32) = Int32.ofNat 12 from rfl, le_of (by omega) (by omega)]; omega), b_gR, if_pos K, lR185_0 L, b_gR, if_pos (lK56 L), r1, b_gR, if_pos i1, i5, b_gAR, if_pos i9, i13, if_neg bk, clk, t1, b_gI, if_pos t21, b_gR, if_pos K, lR185_6 L, b_pAI, if_pos (lK190 L), lN190 L, if_neg bk, clk, mX5_prepareTrial_b105, mX5_prepareTrial_b105, s1_of]
    by_cases m : ((hI h (b + 5 + 4 * k) 4 >>> (Int32.ofNat f &&& 31)) &&& 1) = 0
    · obtain ⟨h1, e1, S1, i, o, r⟩ := ih (k + 1) fu h G (by omega) (by omega)
      refine ⟨h1, fun k27 => by rw [base, if_pos m, e1], S1, i, o, fun j hj => ?_⟩
      rw [r j hj]
      by_cases e : j = k
      · subst e
        have mm : mnB (bR B j) f = false := by rw [← r3.t hj hf]; exact m
        rw [if_neg (by omega), mm, if_neg (by intro hh; cases hh.2)]
      · by_cases g : k + 1 ≤ j ∧ mnB (bR B j) f = true
        · rw [if_pos g, if_pos ⟨by omega, g.2⟩]
        · rw [if_neg g, if_neg (fun hh => g ⟨by omega, hh.2⟩)]
    · obtain ⟨X, hX⟩ : ∃ X : MHp, X = sAI h (c + 190) (va_up (hAI h (c + 190)) k (Int32.ofNat sz)) := ⟨_, rfl⟩
      have SX : Sc c h X := by rw [hX]; exact Sc.AI 190 _ (by decide)
      obtain ⟨h1, e1, S1, i, o, r⟩ := ih (k + 1) fu X (G.sc SX) (by omega) (by omega)
      refine ⟨h1, fun k27 => by rw [base, if_neg m, ← hX, e1], SX.tr S1, by rw [i, hX]; rfl, fun a ha => by rw [o a ha, hX, e_sAI, if_neg ha], fun j hj => ?_⟩
      rw [r j hj, hX, e_sAI, if_pos rfl, e_up]
      by_cases e : j = k
      · subst e
        have mm : mnB (bR B j) f = true := by
          cases q : mnB (bR B j) f with
          | true => rfl
          | false => exact absurd (by rw [r3.t hj hf]; exact q) m
        rw [if_neg (by omega), if_pos rfl, if_pos ⟨Nat.le_refl _, mm⟩]
      · rw [if_neg e]
        by_cases g : k + 1 ≤ j ∧ mnB (bR B j) f = true
        · rw [if_pos g, if_pos ⟨by omega, g.2⟩]
        · rw [if_neg g, if_neg (fun hh => g ⟨by omega, hh.2⟩)]
theorem c_pt {c b n S : Nat} {B : Bk} {x : Nat → Int32} : ∀ (q f fu : Nat) (h : MHp), RG c b n h B → (∀ j : Nat, j < 6 → hAI h (c + 188) j = if S.testBit j = true ∧ j < f then -1 else x j) → (∀ g : Nat, g < f → S.testBit g = true → hAI h (c + 189) (msz S g) = Int32.ofNat g) → (∀ k : Nat, k < bN B → hAI h (c + 190) k = rp S (bR B k) f) → f + q = 6 → q < fu → ∃ h1 : MHp, mX5_prepareTrial_l27 fu h (c + 185) (Int32.ofNat S) (Int32.ofNat (msz S f)) (Int32.ofNat f) = some (Int32.ofNat (msz S 6), h1) ∧ Sd c h h1 ∧ Mr c S B h1 ∧ ∀ j : Nat, j < 6 → hAI h1 (c + 188) j = if S.testBit j = true then -1 else x j := by
  intro q
  induction q with
  | zero =>
    intro f fu h G ht hm hr hf hfu
    obtain ⟨fu, rfl⟩ : ∃ g : Nat, fu = g + 1 := ⟨fu - 1, by omega⟩
    have f6 : f = 6 := by omega
    subst f6
    refine ⟨h, ?_, ⟨Sc.rf, rfl, fun _ _ _ _ => rfl⟩, ⟨hm, hr⟩, fun j hj => ?_⟩
    · rw [mX5_prepareTrial_l27, if_pos (by decide)]
    · rw [ht j hj]
      by_cases s : S.testBit j = true
      · rw [if_pos ⟨s, hj⟩, if_pos s]
      · rw [if_neg (fun hh => s hh.1), if_neg s]
  | succ q ih =>
    intro f fu h G ht hm hr hf hfu
    obtain ⟨fu, rfl⟩ : ∃ g : Nat, fu = g + 1 := ⟨fu - 1, by omega⟩
    obtain ⟨L, r1, r2, r3, r4, r5, r6⟩ := id G
    have K := lK185 L
    have ml := msz_le S f
    have bf := bad_n (k := f) (n := 6) (by omega) (by omega)
    have clf : (Int32.ofNat f).toNatClampNeg = f := cl_of (by omega)
    have bs := bad_n (k := msz S f) (n := 6) (by omega) (by omega)
    have cls : (Int32.ofNat (msz S f)).toNatClampNeg = msz S f := cl_of (by omega)
    have c6 : ¬ (6 : Int32) ≤ Int32.ofNat f := by rw [show (6 : Int32) = Int32.ofNat 6 from rfl, le_of (by omega) (by omega)]; omega
    have e0 := b0_N (S := S) (k := f) (by omega)
    by_cases s : S.testBit f = true
    · obtain ⟨X, hX⟩ : ∃ X : MHp, X = sAI h (c + 189) (va_up (hAI h (c + 189)) (msz S f) (Int32.ofNat f)) := ⟨_, rfl⟩
      obtain ⟨Y, hY⟩ : ∃ Y : MHp, Y = sAI X (c + 188) (va_up (hAI X (c + 188)) f (-1)) := ⟨_, rfl⟩
      have SX : Sc c h X := by rw [hX]; exact Sc.AI 189 _ (by decide)
      have SY : Sc c X Y := by rw [hY]; exact Sc.AI 188 _ (by decide)
      have LX := SX.CL L
      obtain ⟨Z, e1, S1, i1, o1, rr1⟩ := c_pt1 (S := S) (f := f) (sz := msz S f) (by omega) (by omega) 12 0 FUEL Y ((G.sc SX).sc SY) (by omega) (by unfold FUEL; omega)
      have e1' : ∀ k27 : MHp → Nat → Int32 → Int32 → Int32 → Option (Int32 × MHp), mX5_prepareTrial_l67 k27 FUEL Y (c + 185) (Int32.ofNat S) (Int32.ofNat (msz S f)) (Int32.ofNat f) 0 = k27 Z (c + 185) (Int32.ofNat S) (Int32.ofNat (msz S f + 1)) (Int32.ofNat (f + 1)) := e1
      have ms1 : msz S (f + 1) = msz S f + 1 := by rw [msz_s, if_pos s]
      have z188 : hAI Z (c + 188) = va_up (hAI h (c + 188)) f (-1) := by rw [o1 _ (by omega), hY, e_sAI, if_pos rfl, hX, e_sAI, if_neg (by omega)]
      have z189 : hAI Z (c + 189) = va_up (hAI h (c + 189)) (msz S f) (Int32.ofNat f) := by rw [o1 _ (by omega), hY, e_sAI, if_neg (by omega), hX, e_sAI, if_pos rfl]
      have y190 : hAI Y (c + 190) = hAI h (c + 190) := by rw [hY, e_sAI, if_neg (by omega), hX, e_sAI, if_neg (by omega)]
      obtain ⟨h1, e2, S2, M2, t2⟩ := ih (f + 1) fu Z (((G.sc SX).sc SY).sc S1) (fun j hj => by
        rw [z188, e_up]
        by_cases e : j = f
        · subst e
          rw [if_pos rfl, if_pos ⟨s, by omega⟩]
        · rw [if_neg e, ht j hj]
          by_cases g : S.testBit j = true ∧ j < f
          · rw [if_pos g, if_pos ⟨g.1, by omega⟩]
          · rw [if_neg g, if_neg (fun hh => g ⟨hh.1, by omega⟩)]) (fun g hg hs => by
        rw [z189, e_up]
        by_cases e : g = f
        · subst e; rw [if_pos rfl]
        · have := msz_lt (g := f) hs (by omega)
          rw [if_neg (by omega)]; exact hm g (by omega) hs) (fun k hk => by
        rw [rr1 k hk, y190, rp_s, hr k hk, s, Bool.true_and]
        by_cases mm : mnB (bR B k) f = true
        · rw [if_pos ⟨Nat.zero_le _, mm⟩, if_pos mm]
        · rw [if_neg (fun hh => mm hh.2), if_neg mm]) (by omega) (by omega)
      refine ⟨h1, ?_, ⟨((SX.tr SY).tr S1).tr S2.1, by rw [S2.2.1, i1, hY, hX]; rfl, fun a x y z => by rw [S2.2.2 a x y z, o1 a z, hY, e_sAI, if_neg x, hX, e_sAI, if_neg y]⟩, M2, t2⟩
      rw [mX5_prepareTrial_l27, if_neg c6, if_neg (by rw [e0, s]; decide), b_gR, if_pos K, lR185_5 L, b_gN, if_pos (lK189 L), lN189 L, if_neg (by rw [le_of (by omega) (by omega)]; omega), b_gR, if_pos K, lR185_5 L, b_pAI, if_pos (lK189 L), lN189 L, if_neg bs, cls, ← hX, b_gR, if_pos (lK185 LX), lR185_4 LX, b_pAI, if_pos (lK188 LX), lN188 LX, if_neg bf, clf, ← hY, e1', ← ms1, e2]
    · have s' : S.testBit f = false := by simpa using s
      have ms1 : msz S (f + 1) = msz S f := by rw [msz_s, if_neg s]; rfl
      obtain ⟨h1, e2, S2, M2, t2⟩ := ih (f + 1) fu h G (fun j hj => by
        rw [ht j hj]
        by_cases g : S.testBit j = true ∧ j < f
        · rw [if_pos g, if_pos ⟨g.1, by omega⟩]
        · rw [if_neg g, if_neg (fun hh => g ⟨hh.1, by
            by_cases e : j = f
            · subst e; exact absurd hh.1 s
            · omega⟩)]) (fun g hg hs => hm g (by
        by_cases e : g = f
        · subst e; exact absurd hs s
        · omega) hs) (fun k hk => by rw [hr k hk, rp_s, s', Bool.false_and, if_neg (by decide)]) (by omega) (by omega)
      refine ⟨h1, ?_, S2, M2, t2⟩
      rw [mX5_prepareTrial_l27, if_neg c6, if_pos (by rw [e0]; exact s'), mX5_prepareTrial_b114, s1_of, ← ms1, e2]
theorem p_prepare {c b n S : Nat} {h : MHp} {B : Bk} (G : RG c b n h B) : ∃ h1 : MHp, mX5_prepareTrial h (c + 185) (Int32.ofNat S) = some (Int32.ofNat (msz S 6), h1) ∧ Sd c h h1 ∧ Mr c S B h1 ∧ ∀ j : Nat, j < 6 → hAI h1 (c + 188) j = if S.testBit j = true then -1 else hAI h (c + 186) j := by
  obtain ⟨L, r1, r2, r3, r4, r5, r6⟩ := id G
  have K := lK185 L
  have n12 := r4.2.1
  obtain ⟨X, hX⟩ : ∃ X : MHp, X = sAI h (c + 188) (va_cpy (hAI h (c + 186)) (hAI h (c + 188)) 0 0 6) := ⟨_, rfl⟩
  have e0 : (cpI 20 h (some (c + 186)) 0 (some (c + 188)) 0 6) = some X := by
    have c4 : ¬ ((0 : Int32) < 0 ∨ (0 : Int32) < 0 ∨ (6 : Int32) < 0 ∨ 6 < (0 : Int32).toNatClampNeg + (6 : Int32).toNatClampNeg ∨ 6 < (0 : Int32).toNatClampNeg + (6 : Int32).toNatClampNeg) := by decide
    unfold cpI
    rw [b_rcv, if_pos (lK186 L), b_rcv, if_pos (lK188 L), lN186 L, lN188 L, if_neg c4, hX]
    rfl
  have SX : Sc c h X := by rw [hX]; exact Sc.AI 188 _ (by decide)
  have LX := SX.CL L
  obtain ⟨Y, hY⟩ : ∃ Y : MHp, Y = sAI X (c + 190) (fun j => if j < 12 then -1 else hAI X (c + 190) j) := ⟨_, rfl⟩
  have f1 := j_fill (v := -1) (lK190 LX) (lN190 LX) (by omega)
  rw [← hY] at f1
  have SY : Sc c X Y := by rw [hY]; exact Sc.AI 190 _ (by decide)
  obtain ⟨h1, e1, S1, M1, t1⟩ := c_pt (S := S) (x := hAI h (c + 186)) 6 0 FUEL Y ((G.sc SX).sc SY) (fun j hj => by
    rw [if_neg (by omega), hY, e_sAI, if_neg (by omega), hX, e_sAI, if_pos rfl]
    unfold va_cpy
    rw [if_pos (by omega)]
    congr 1
    omega) (fun g hg => by omega) (fun k hk => by
    rw [hY, e_sAI, if_pos rfl, if_pos (by omega)]; rfl) (by omega) (by unfold FUEL; omega)
  have e1' : mX5_prepareTrial_l27 FUEL Y (c + 185) (Int32.ofNat S) 0 0 = _ := e1
  refine ⟨h1, ?_, ⟨(SX.tr SY).tr S1.1, by rw [S1.2.1, hY, hX]; rfl, fun a x y z => by rw [S1.2.2 a x y z, hY, e_sAI, if_neg z, hX, e_sAI, if_neg x]⟩, M1, t1⟩
  rw [mX5_prepareTrial, b_gR, if_pos K, lR185_2 L, b_gR, if_pos K, lR185_4 L, e0, o_bind, b_gR, if_pos (lK185 LX), lR185_6 LX, f1, o_bind, e1']
/-- the class's findValues: the least values that do, or none -/
theorem p_find {c b n S : Nat} {h : MHp} {B : Bk} (G : RG c b n h B) (hS : ∀ f : Nat, S.testBit f = true → f < bF B) (sp : spT B (bF B) ≤ 20000) : ∃ h1 : MHp, Sd c h h1 ∧ ((∃ v : Nat → Nat, mX5_findValues h (c + 185) (Int32.ofNat S) = some (1, h1) ∧ MinV B (hAI h (c + 186)) S v ∧ ∀ g : Nat, g < 6 → hAI h1 (c + 188) g = mixW S (hAI h (c + 186)) v g) ∨ mX5_findValues h (c + 185) (Int32.ofNat S) = some (0, h1) ∧ ∀ v : Nat → Nat, ¬ GoodV B (hAI h (c + 186)) S v) := by
  obtain ⟨L, r1, r2, r3, r4, r5, r6⟩ := id G
  have K := lK185 L
  have h6 := r4.1
  obtain ⟨h1, e1, S1, M1, t1⟩ := p_prepare (S := S) G
  have G1 := G.sc S1.1
  have L1 := G1.1
  have ehr := p_hr G1 M1.2 (-1)
  have m6 := msz_le S 6
  have T0 : Tv c S 0 (hAI h (c + 186)) (fun _ => 0) B h1 := ⟨fun g hg ns => by rw [t1 g hg, if_neg ns], fun g hg => by omega⟩
  by_cases hr : hrB B S (hAI h1 (c + 188)) (-1) = true
  · refine ⟨h1, S1, Or.inr ⟨?_, fun v hv => ?_⟩⟩
    · rw [mX5_findValues, b_rcv, if_pos K, e1, o_bind, b_rcv, if_pos (lK185 L1), ehr, o_bind, if_pos hr, if_neg n10]
    · obtain ⟨k, hk, hk2, hk3⟩ := hrB_t hr
      have hst := rp_first.mp hk2
      have em := T0.mix (u := v) (fun g hg => by omega)
      have e2 := tH_stl r4 (S := S) (w := hAI h1 (c + 188)) (w' := mixW S (hAI h (c + 186)) v) hk hst (fun g hg hs => em g (by omega) hs)
      have := bB_all.mp hv.2 k hk
      rw [← e2, hk3] at this
      cases this
  · have hr' : hrB B S (hAI h1 (c + 188)) (-1) = false := by simpa using hr
    have N0 : NR B S 0 (hAI h1 (c + 188)) := fun k hk hst => hrB_f.mp hr' k hk (rp_first.mpr hst)
    obtain ⟨us, u1, u2⟩ := c_dfs hS 6 0 (fun _ => 0) h1 (by omega) G1 M1 T0 N0 (fun g _ hg hs _ => by rw [t1 g hg, if_pos hs])
    have kb := kc_le (B := B) (S := S) (fun f hf => (r4.2.2.1 f (hS f hf)).1) 6 0
    have pp := pf_pm (B := B) (S := S) 6 0
    have p1 : pm B S 6 0 = pf B S 6 := by
      rw [← pp]
      show _ = 1 * pm B S 6 0
      rw [Nat.one_mul]
    have p2 : pf B S 6 = pf B S (bF B) := by
      have := pf_pm (B := B) (S := S) (6 - bF B) (bF B)
      rw [show bF B + (6 - bF B) = 6 by omega, pm_out _ _ (fun g hg hs => by have := hS g hs; omega), Nat.mul_one] at this
      exact this.symm
    have p3 := pf_sp (B := B) (S := S) (bF B)
    have us60 : us < 999998 := by omega
    have m0 : msz S 0 = 0 := rfl
    have start : mX5_findValues h (c + 185) (Int32.ofNat S) = mX5_findValues_l21 FUEL h1 (c + 185) (Int32.ofNat (msz S 6)) (Int32.ofNat 0) (Int32.ofNat 0) := by
      rw [show Int32.ofNat 0 = (0 : Int32) from rfl, mX5_findValues, b_rcv, if_pos K, e1, o_bind, b_rcv, if_pos (lK185 L1), ehr, o_bind, if_neg hr, if_pos rfl]
    rcases u2 with ⟨h2, v2, w1, w2, w3, w4, w5, w6⟩ | ⟨h2, w1, w2, w3, w4⟩
    · obtain ⟨n', hn'⟩ : ∃ n' : Nat, FUEL = n' + us + 1 := ⟨FUEL - us - 1, by unfold FUEL; omega⟩
      have e3 := w6 n' 0 (by omega)
      rw [← hn', m0] at e3
      refine ⟨h2, S1.tr w5.d, Or.inl ⟨v2, by rw [start, e3], ⟨w2, fun u hu => w3 u hu (fun g hg => by omega) (fun _ _ => Nat.zero_le _)⟩, fun g hg => ?_⟩⟩
      exact w4.mix (u := v2) (fun _ _ _ => rfl) g hg (fun _ => hg)
    · obtain ⟨n', hn'⟩ : ∃ n' : Nat, FUEL = n' + 1 + us := ⟨FUEL - us - 1, by unfold FUEL; omega⟩
      have e3 := w4 (n' + 1) 0 (by omega)
      rw [← hn', m0] at e3
      refine ⟨h2, S1.tr w3.d, Or.inr ⟨?_, fun v hv => w2 v hv (fun g hg => by omega) (fun _ _ => Nat.zero_le _)⟩⟩
      rw [start, e3, mX5_findValues_l21, if_neg (by rw [show (1000000 : Int32) = Int32.ofNat 1000000 from rfl, le_of (by omega) (by omega)]; omega), if_pos (by decide), mX5_findValues_b93, if_neg (fun e => nm_of (show msz S 6 < 2147483648 by omega) e.symm)]

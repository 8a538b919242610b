/-! the class's search for values -/
theorem bv32_0 (v : BitVec 32) : (v &&& 1#32 = 0#32) ↔ v.getLsbD 0 = false := by
  constructor
  · intro h
    have := congrArg (fun y : BitVec 32 => y.getLsbD 0) h
    simpa using this
  · intro h
    apply BitVec.eq_of_getLsbD_eq
    intro i hi
    by_cases e : i = 0
    · subst e; rw [BitVec.getLsbD_and, h, Bool.false_and, BitVec.getLsbD_zero]
    · simp [e]
theorem b0_bit (x : Int32) {k : Nat} (hk : k < 32) : (((x >>> (Int32.ofNat k &&& 31)) &&& 1) = 0) = (x.toBitVec.getLsbD k = false) := by
  rw [← Int32.toBitVec_inj]
  have h1 : (x >>> (Int32.ofNat k &&& 31)).toBitVec = x.toBitVec.sshiftRight k := by
    show x.toBitVec.sshiftRight ((Int32.ofNat k &&& 31).toBitVec.smod 32).toNat = _
    rw [sh_i hk]
  rw [Int32.toBitVec_and, h1]
  show (x.toBitVec.sshiftRight k &&& 1#32 = 0#32) = _
  rw [propext (bv32_0 _), BitVec.getLsbD_sshiftRight]
  simp [hk]
theorem b0_N {S k : Nat} (hk : k < 32) : (((Int32.ofNat S >>> (Int32.ofNat k &&& 31)) &&& 1) = 0) = (S.testBit k = false) := by
  rw [b0_bit _ hk]
  show ((BitVec.ofNat 32 S).getLsbD k = false) = _
  rw [BitVec.getLsbD_ofNat, decide_eq_true hk, Bool.true_and]
theorem b1_N {S k : Nat} (hk : k < 32) : (((Int32.ofNat S >>> (Int32.ofNat k &&& 31)) &&& 1) = 1) = (S.testBit k = true) := by
  rw [mb_pos, mb_N hk]
/-- changes in the trial, the members, the ripe times alone -/
def Sd (c : Nat) (h h' : MHp) : Prop := Sc c h h' ∧ hI h' = hI h ∧ ∀ a : Nat, a ≠ c + 188 → a ≠ c + 189 → a ≠ c + 190 → hAI h' a = hAI h a
def Se (c : Nat) (h h' : MHp) : Prop := Sc c h h' ∧ hI h' = hI h ∧ ∀ a : Nat, a ≠ c + 188 → hAI h' a = hAI h a
theorem Sd.tr {c : Nat} {h h1 h2 : MHp} (A : Sd c h h1) (B : Sd c h1 h2) : Sd c h h2 := ⟨A.1.tr B.1, B.2.1.trans A.2.1, fun a x y z => (B.2.2 a x y z).trans (A.2.2 a x y z)⟩
theorem Se.tr {c : Nat} {h h1 h2 : MHp} (A : Se c h h1) (B : Se c h1 h2) : Se c h h2 := ⟨A.1.tr B.1, B.2.1.trans A.2.1, fun a x => (B.2.2 a x).trans (A.2.2 a x)⟩
theorem Se.rf {c : Nat} {h : MHp} : Se c h h := ⟨Sc.rf, rfl, fun _ _ => rfl⟩
theorem Se.d {c : Nat} {h h' : MHp} (S : Se c h h') : Sd c h h' := ⟨S.1, S.2.1, fun a x _ _ => S.2.2 a x⟩
/-- what the search reads: members and ripe times -/
def Mr (c S : Nat) (B : Bk) (h : MHp) : Prop := (∀ f : Nat, f < 6 → S.testBit f = true → hAI h (c + 189) (msz S f) = Int32.ofNat f) ∧ ∀ k : Nat, k < bN B → hAI h (c + 190) k = rp S (bR B k) 6
theorem Mr.e {c S : Nat} {B : Bk} {h h' : MHp} (M : Mr c S B h) (E : Se c h h') : Mr c S B h' := by
  unfold Mr
  rw [E.2.2 (c + 189) (by omega), E.2.2 (c + 190) (by omega)]
  exact M
theorem p_hr {c b n S : Nat} {h : MHp} {B : Bk} (G : RG c b n h B) (M : ∀ k : Nat, k < bN B → hAI h (c + 190) k = rp S (bR B k) 6) (d : Int32) : mX5_holdsRipe h (c + 185) d = some (if hrB B S (hAI h (c + 188)) d = true then 1 else 0) := by
  obtain ⟨L, r1, r2, r3, r4, r5, r6⟩ := id G
  have I := G.ib
  obtain ⟨i1, i2, i3, i4, i5, i6, i7, i8, i9, i10, i11, i12, i13, i14⟩ := I
  obtain ⟨cb1, cb2, cb3, cb4⟩ := r3
  have hN12 := r4.2.1
  have K := lK185 L
  have loop : ∀ (q k fu : Nat), k + q = bN B → q < fu → mX5_holdsRipe_l2 h fu (c + 185) d (Int32.ofNat k) = some (if allF (fun k => !(decide (rp S (bR B k) 6 = d) && tH (bR B k) (hAI h (c + 188)))) q k = true then 0 else 1) := by
    intro q
    induction q with
    | zero =>
      intro k fu hk hf
      obtain ⟨fu, rfl⟩ : ∃ g : Nat, fu = g + 1 := ⟨fu - 1, by omega⟩
      rw [mX5_holdsRipe_l2, b_gR, if_pos K, lR185_0 L, b_gR, if_pos (lK56 L), r1, b_gI, if_pos i1, cb2, if_pos (by rw [le_of (by omega) (by omega)]; omega), allF_0]; rfl
    | succ q ih =>
      intro k fu hk hf
      obtain ⟨fu, rfl⟩ : ∃ g : Nat, fu = g + 1 := ⟨fu - 1, by omega⟩
      have bk := bad_n (k := k) (n := 12) (by omega) (by omega)
      have clk : (Int32.ofNat k).toNatClampNeg = k := cl_of (by omega)
      obtain ⟨t1, t2⟩ := i14 k (by omega)
      have e1 := p_holds t2 (cb4 k (by omega)) (r4.2.2.2 k (by omega)) r4.1 (lK188 L) (lN188 L)
      rw [mX5_holdsRipe_l2, b_gR, if_pos K, lR185_0 L, b_gR, if_pos (lK56 L), r1, b_gI, if_pos i1, cb2, if_neg (by rw [le_of (by omega) (by omega)]; omega), if_neg (by rw [show (12 : Int32) = Int32.ofNat 12 from rfl, le_of (by omega) (by omega)]; omega), b_gR, if_pos K, lR185_6 L, b_gAI, if_pos (lK190 L), lN190 L, if_neg bk, clk, M k (by omega), allF_s]
      by_cases g : rp S (bR B k) 6 = d
      · rw [if_pos g, b_gR, if_pos K, lR185_0 L, b_gR, if_pos (lK56 L), r1, b_gR, if_pos i1, i5, b_gAR, if_pos i9, i13, if_neg bk, clk, t1, b_gR, if_pos K, lR185_4 L, b_rcv, if_pos t2.1, e1, o_bind, decide_eq_true g, Bool.true_and]
        by_cases t : tH (bR B k) (hAI h (c + 188)) = true
        · rw [if_pos t, if_neg n10, t, Bool.not_true, Bool.false_and, if_neg (by decide)]
        · have t' : tH (bR B k) (hAI h (c + 188)) = false := by simpa using t
          rw [if_neg t, if_pos rfl, mX5_holdsRipe_b56, s1_of, ih (k + 1) fu (by omega) (by omega), t', Bool.not_false, Bool.true_and]
      · rw [if_neg g, mX5_holdsRipe_b56, s1_of, ih (k + 1) fu (by omega) (by omega), decide_eq_false g, Bool.false_and, Bool.not_false, Bool.true_and]
  have e := loop (bN B) 0 FUEL (by omega) (by unfold FUEL; omega)
  have e' : mX5_holdsRipe h (c + 185) d = some (if allF (fun k => !(decide (rp S (bR B k) 6 = d) && tH (bR B k) (hAI h (c + 188)))) (bN B) 0 = true then 0 else 1) := e
  rw [e']
  unfold hrB
  cases allF (fun k => !(decide (rp S (bR B k) 6 = d) && tH (bR B k) (hAI h (c + 188)))) (bN B) 0 <;> rfl
/-- the value ahead of the next one to be tried -/
def prv (a : Nat) : Int32 := if a = 0 then -1 else Int32.ofNat (a - 1)
theorem prv_s (a : Nat) : prv (a + 1) = Int32.ofNat a := by
  unfold prv; rw [if_neg (by omega)]; rfl
theorem prv_1 {a : Nat} : prv a + 1 = Int32.ofNat a := by
  cases a with
  | zero => rfl
  | succ a => rw [prv_s, s1_of]
theorem prv_lt {a T : Nat} (ha : a < 100) (hT : T < 100) : (prv a < Int32.ofNat T) = (a ≤ T) := by
  cases a with
  | zero =>
    have : prv 0 = -1 := rfl
    rw [this, Int32.lt_iff_toInt_lt, ti_of (by omega)]
    have m1 : (-1 : Int32).toInt = -1 := rfl
    rw [m1]
    exact propext ⟨fun _ => by omega, fun _ => by omega⟩
  | succ a =>
    rw [prv_s, lt_of (by omega) (by omega)]
    exact propext ⟨fun h => by omega, fun h => by omega⟩
theorem p_raise {c b n f a : Nat} {h : MHp} {B : Bk} (G : RG c b n h B) (hf : f < bF B) (e : hAI h (c + 188) f = prv a) (ha : a ≤ bT B f + 1) : mX5_raise h (c + 185) (Int32.ofNat f) = some (if a ≤ bT B f then (1, sAI h (c + 188) (va_up (hAI h (c + 188)) f (Int32.ofNat a))) else (0, h)) := by
  obtain ⟨L, r1, r2, r3, r4, r5, r6⟩ := id G
  have K := lK185 L
  have h6 := r4.1
  have wt := r4.2.2.1 f hf
  have bf := bad_n (k := f) (n := 6) (by omega) (by omega)
  have clf : (Int32.ofNat f).toNatClampNeg = f := cl_of (by omega)
  have lt := prv_lt (a := a) (T := bT B f) (by omega) (by omega)
  rw [mX5_raise, if_neg (by rw [nn_of (by omega)]; exact not_false), b_gR, if_pos K, lR185_4 L, b_gN, if_pos (lK188 L), lN188 L, if_neg (by rw [le_of (by omega) (by omega)]; omega), b_gR, if_pos K, lR185_4 L, b_gAI, if_pos (lK188 L), lN188 L, if_neg bf, clf, e, b_gR, if_pos K, lR185_0 L, b_gR, if_pos (lK56 L), r1, b_rcv, if_pos G.ib.1, p_topOf G hf, o_bind]
  by_cases g : a ≤ bT B f
  · rw [if_pos (by rw [lt]; exact g), if_pos g, b_gR, if_pos K, lR185_4 L, b_gAI, if_pos (lK188 L), lN188 L, if_neg bf, clf, e, prv_1, b_pAI, if_pos (lK188 L), lN188 L, if_neg bf, clf]
  · rw [if_neg (by rw [lt]; exact g), if_neg g]
theorem p_startAt {c b n f d : Nat} {h : MHp} {B : Bk} (G : RG c b n h B) (hf : f < 6) (hd : d < 6) (e : hAI h (c + 189) d = Int32.ofNat f) : mX5_startAt h (c + 185) (Int32.ofNat d) = some (sAI h (c + 188) (va_up (hAI h (c + 188)) f (-1))) := by
  have L := G.1
  have K := lK185 L
  have bf := bad_n (k := f) (n := 6) (by omega) (by omega)
  have clf : (Int32.ofNat f).toNatClampNeg = f := cl_of (by omega)
  have bd := bad_n (k := d) (n := 6) (by omega) (by omega)
  have cld : (Int32.ofNat d).toNatClampNeg = d := cl_of (by omega)
  rw [mX5_startAt, if_neg (by rw [nn_of (by omega)]; exact not_false), b_gR, if_pos K, lR185_5 L, b_gN, if_pos (lK189 L), lN189 L, if_neg (by rw [le_of (by omega) (by omega)]; omega), b_gR, if_pos K, lR185_5 L, b_gAI, if_pos (lK189 L), lN189 L, if_neg bd, cld, e, if_neg (by rw [nn_of (by omega)]; exact not_false), b_gR, if_pos K, lR185_4 L, b_gN, if_pos (lK188 L), lN188 L, if_neg (by rw [le_of (by omega) (by omega)]; omega), b_gR, if_pos K, lR185_4 L, b_pAI, if_pos (lK188 L), lN188 L, if_neg bf, clf]
/-- the trial has the values v in a set's fields before f, own values beside the set -/
def Tv (c S f : Nat) (x : Nat → Int32) (v : Nat → Nat) (B : Bk) (h : MHp) : Prop := (∀ g : Nat, g < 6 → ¬ S.testBit g = true → hAI h (c + 188) g = x g) ∧ ∀ g : Nat, g < f → g < 6 → S.testBit g = true → hAI h (c + 188) g = Int32.ofNat (v g) ∧ v g ≤ bT B g
theorem Tv.mix {c S f : Nat} {x : Nat → Int32} {v u : Nat → Nat} {B : Bk} {h : MHp} (T : Tv c S f x v B h) (e : ∀ g : Nat, g < f → S.testBit g = true → u g = v g) : ∀ g : Nat, g < 6 → (S.testBit g = true → g < f) → hAI h (c + 188) g = mixW S x u g := by
  intro g hg hs
  unfold mixW
  by_cases s : S.testBit g = true
  · rw [if_pos s, (T.2 g (hs s) hg s).1, e g (hs s) s]
  · rw [if_neg s]; exact T.1 g hg s
/-- how a search ends -/
def Fnd (c S : Nat) (B : Bk) (x : Nat → Int32) (h : MHp) (f : Nat) (v : Nat → Nat) (lo used : Nat) : Prop := ∃ (h' : MHp) (v' : Nat → Nat), (∀ g : Nat, g < f → S.testBit g = true → v' g = v g) ∧ GoodV B x S v' ∧ (∀ u : Nat → Nat, GoodV B x S u → (∀ g : Nat, g < f → S.testBit g = true → u g = v g) → (S.testBit f = true → f < 6 → lo ≤ u f) → cd B S v' (bF B) ≤ cd B S u (bF B)) ∧ Tv c S 6 x v' B h' ∧ Se c h h' ∧ ∀ n t : Nat, t + used < 1000000 → mX5_findValues_l21 (n + used + 1) h (c + 185) (Int32.ofNat (msz S 6)) (Int32.ofNat (msz S f)) (Int32.ofNat t) = some (1, h')
def Nfd (c S : Nat) (B : Bk) (x : Nat → Int32) (h : MHp) (f : Nat) (v : Nat → Nat) (lo used : Nat) : Prop := ∃ h' : MHp, Tv c S f x v B h' ∧ (∀ u : Nat → Nat, GoodV B x S u → (∀ g : Nat, g < f → S.testBit g = true → u g = v g) → (S.testBit f = true → f < 6 → lo ≤ u f) → False) ∧ Se c h h' ∧ ∀ n t : Nat, t + used < 1000000 → mX5_findValues_l21 (n + used) h (c + 185) (Int32.ofNat (msz S 6)) (Int32.ofNat (msz S f)) (Int32.ofNat t) = mX5_findValues_l21 n h' (c + 185) (Int32.ofNat (msz S 6)) (Int32.ofNat (msz S f) + (-1)) (Int32.ofNat (t + used))
theorem c_dfs {c b n S : Nat} {B : Bk} {x : Nat → Int32} (hS : ∀ f : Nat, S.testBit f = true → f < bF B) : ∀ (q f : Nat) (v : Nat → Nat) (h : MHp), f + q = 6 → RG c b n h B → Mr c S B h → Tv c S f x v B h → NR B S f (hAI h (c + 188)) → (∀ g : Nat, f ≤ g → g < 6 → S.testBit g = true → (∀ g' : Nat, f ≤ g' → g' < g → ¬ S.testBit g' = true) → hAI h (c + 188) g = -1) → ∃ used : Nat, used ≤ kc B S q f ∧ (Fnd c S B x h f v 0 used ∨ Nfd c S B x h f v 0 used) := by
  intro q
  induction q with
  | zero =>
    intro f v h hf G M T N F
    have f6 : f = 6 := by omega
    subst f6
    obtain ⟨L, r1, r2, r3, r4, r5, r6⟩ := id G
    have h6 := r4.1
    refine ⟨0, Nat.le_refl _, Or.inl ⟨h, v, fun _ _ _ => rfl, ⟨fun g hg s => (T.2 g (by omega) (by omega) s).2, ?_⟩, fun u hu he _ => ?_, T, Se.rf, fun n t ht => ?_⟩⟩
    · have e := T.mix (u := v) (fun _ _ _ => rfl)
      rw [← bB_congr r4 (fun g hg => e g (by omega) (fun _ => by omega))]
      exact bB_all.mpr (fun k hk => N k hk (fun g a _ _ => a))
    · rw [cd_congr (w := u) (bF B) (fun g hg s => (he g (by omega) s).symm)]
      exact Nat.le_refl _
    · have m6 := msz_le S 6
      rw [mX5_findValues_l21, if_neg (by rw [show (1000000 : Int32) = Int32.ofNat 1000000 from rfl, le_of (by omega) (by omega)]; omega), if_neg (by rw [nn_of (by omega)]; exact not_false), if_pos (Int32.le_refl _), mX5_findValues_b93, if_pos rfl]
  | succ q ih =>
    intro f v h hf G M T N F
    by_cases s : S.testBit f = true
    · have hfB := hS f s
      have h6 := G.2.2.2.2.1.1
      have wt := G.2.2.2.2.1.2.2.1 f hfB
      have ml := msz_lt (g := 6) s (by omega)
      have m6 := msz_le S 6
      -- the values of this field, from a on
      have R : ∀ (z a : Nat) (h : MHp), a + z = bT B f + 1 → RG c b n h B → Mr c S B h → Tv c S f x v B h → NR B S f (hAI h (c + 188)) → hAI h (c + 188) f = prv a → ∃ used : Nat, used ≤ z * (1 + kc B S q (f + 1)) + 1 ∧ (Fnd c S B x h f v a used ∨ Nfd c S B x h f v a used) := by
        intro z
        induction z with
        | zero =>
          intro a h ha G M T N e
          obtain ⟨L, r1, r2, r3, r4, r5, r6⟩ := id G
          have K := lK185 L
          have er := p_raise G hfB e (by omega)
          rw [if_neg (by omega)] at er
          have bd := bad_n (k := msz S f) (n := 6) (by omega) (by omega)
          refine ⟨1, by omega, Or.inr ⟨h, T, fun u hu he hl => ?_, Se.rf, fun n t ht => ?_⟩⟩
          · have := hl s (by omega)
            have := hu.1 f hfB s
            omega
          · rw [mX5_findValues_l21, if_neg (by rw [show (1000000 : Int32) = Int32.ofNat 1000000 from rfl, le_of (by omega) (by omega)]; omega), if_neg (by rw [nn_of (by omega)]; exact not_false), if_neg (by rw [le_of (by omega) (by omega)]; omega), if_neg (by rw [show (6 : Int32) = Int32.ofNat 6 from rfl, le_of (by omega) (by omega)]; omega), b_gR, if_pos K, lR185_5 L, b_gAI, if_pos (lK189 L), lN189 L, if_neg bd, cl_of (by omega), M.1 f (by omega) s, b_rcv, if_pos K, er, o_bind, if_pos rfl, mX5_findValues_b87, s1_of]
        | succ z ihz =>
          intro a h ha G M T N e
          obtain ⟨L, r1, r2, r3, r4, r5, r6⟩ := id G
          have K := lK185 L
          have er := p_raise G hfB e (by omega)
          rw [if_pos (by omega)] at er
          have bd := bad_n (k := msz S f) (n := 6) (by omega) (by omega)
          obtain ⟨h1, hh1⟩ : ∃ h1 : MHp, h1 = sAI h (c + 188) (va_up (hAI h (c + 188)) f (Int32.ofNat a)) := ⟨_, rfl⟩
          rw [← hh1] at er
          have E1 : Se c h h1 := ⟨by rw [hh1]; exact Sc.AI 188 _ (by decide), by rw [hh1]; rfl, fun a x => by rw [hh1, e_sAI, if_neg x]⟩
          have G1 := G.sc E1.1
          have L1 := G1.1
          have M1 := M.e E1
          have tr1 : ∀ g : Nat, hAI h1 (c + 188) g = if g = f then Int32.ofNat a else hAI h (c + 188) g := fun g => by rw [hh1, e_sAI, if_pos rfl, e_up]
          have T1f : Tv c S f x v B h1 := ⟨fun g hg ns => by rw [tr1, if_neg (fun q => ns (by rw [q]; exact s))]; exact T.1 g hg ns, fun g hg hg6 hs => by rw [tr1, if_neg (by omega)]; exact T.2 g hg hg6 hs⟩
          obtain ⟨v1, hv1⟩ : ∃ v1 : Nat → Nat, v1 = fun g => if g = f then a else v g := ⟨_, rfl⟩
          have v1f : v1 f = a := by rw [hv1]; exact if_pos rfl
          have v1g : ∀ g : Nat, g ≠ f → v1 g = v g := fun g hg => by rw [hv1]; exact if_neg hg
          have T1 : Tv c S (f + 1) x v1 B h1 := ⟨T1f.1, fun g hg hg6 hs => by
            by_cases q : g = f
            · subst q
              rw [tr1, if_pos rfl, v1f]
              exact ⟨rfl, by omega⟩
            · rw [v1g g q]
              exact T1f.2 g (by omega) hg6 hs⟩
          have N1 : NR B S f (hAI h1 (c + 188)) := N.congr r4 (fun g hg hs => by rw [tr1, if_neg (fun q => by have := hs (by rw [q]; exact s); omega)])
          have ehr := p_hr G1 M1.2 (Int32.ofNat (msz S f))
          have base : ∀ n t : Nat, t < 1000000 → mX5_findValues_l21 (n + 1) h (c + 185) (Int32.ofNat (msz S 6)) (Int32.ofNat (msz S f)) (Int32.ofNat t) = (if (if hrB B S (hAI h1 (c + 188)) (Int32.ofNat (msz S f)) = true then (1 : Int32) else 0) = 0 then (if Int32.ofNat (msz S 6) ≤ Int32.ofNat (msz S f) + 1 then mX5_findValues_l21 n h1 (c + 185) (Int32.ofNat (msz S 6)) (Int32.ofNat (msz S f) + 1) (Int32.ofNat (t + 1)) else (rcv 6 h1 (some (c + 185))).bind fun b9 => (mX5_startAt h1 b9 (Int32.ofNat (msz S f) + 1)).bind fun r8 => mX5_findValues_l21 n r8 (c + 185) (Int32.ofNat (msz S 6)) (Int32.ofNat (msz S f) + 1) (Int32.ofNat (t + 1))) else mX5_findValues_l21 n h1 (c + 185) (Int32.ofNat (msz S 6)) (Int32.ofNat (msz S f)) (Int32.ofNat (t + 1))) := fun n t ht => by
            rw [mX5_findValues_l21, if_neg (by rw [show (1000000 : Int32) = Int32.ofNat 1000000 from rfl, le_of (by omega) (by omega)]; omega), if_neg (by rw [nn_of (by omega)]; exact not_false), if_neg (by rw [le_of (by omega) (by omega)]; omega), if_neg (by rw [show (6 : Int32) = Int32.ofNat 6 from rfl, le_of (by omega) (by omega)]; omega), b_gR, if_pos K, lR185_5 L, b_gAI, if_pos (lK189 L), lN189 L, if_neg bd, cl_of (by omega), M.1 f (by omega) s, b_rcv, if_pos K, er, o_bind, if_neg n10, b_rcv, if_pos (lK185 L1), ehr, o_bind]
            simp only [mX5_findValues_b87, s1_of]
          by_cases hr : hrB B S (hAI h1 (c + 188)) (Int32.ofNat (msz S f)) = true
          · -- a rule holds for every such value
            have no : ∀ u : Nat → Nat, GoodV B x S u → (∀ g : Nat, g < f → S.testBit g = true → u g = v g) → u f = a → False := fun u hu he hua => by
              obtain ⟨k, hk, hk2, hk3⟩ := hrB_t hr
              have hst := ((rp_ripe (by omega) s).mp hk2).1
              have em := T1.mix (u := u) (fun g hg hs => by
                by_cases q : g = f
                · subst q; rw [v1f]; exact hua
                · rw [v1g g q]; exact he g (by omega) hs)
              have e2 := tH_stl r4 (S := S) (w := hAI h1 (c + 188)) (w' := mixW S x u) hk hst (fun g hg hs => em g (by omega) hs)
              have := bB_all.mp hu.2 k hk
              rw [← e2, hk3] at this
              cases this
            obtain ⟨us, u1, u2⟩ := ihz (a + 1) h1 (by omega) G1 M1 T1f N1 (by rw [tr1, if_pos rfl, prv_s])
            have lift : ∀ u : Nat → Nat, GoodV B x S u → (∀ g : Nat, g < f → S.testBit g = true → u g = v g) → (S.testBit f = true → f < 6 → a ≤ u f) → (S.testBit f = true → f < 6 → a + 1 ≤ u f) := fun u hu he hl hs h6' => by
              have := hl hs h6'
              by_cases q : u f = a
              · exact (no u hu he q).elim
              · omega
            refine ⟨us + 1, by rw [Nat.add_mul]; omega, ?_⟩
            rcases u2 with ⟨h2, v2, w1, w2, w3, w4, w5, w6⟩ | ⟨h2, w1, w2, w3, w4⟩
            · refine Or.inl ⟨h2, v2, w1, w2, fun u hu he hl => w3 u hu he (lift u hu he hl), w4, E1.tr w5, fun n t ht => ?_⟩
              rw [show n + (us + 1) + 1 = (n + us + 1) + 1 by omega, base (n + us + 1) t (by omega), if_pos hr, if_neg n10, w6 n (t + 1) (by omega)]
            · refine Or.inr ⟨h2, w1, fun u hu he hl => w2 u hu he (lift u hu he hl), E1.tr w3, fun n t ht => ?_⟩
              rw [show n + (us + 1) = (n + us) + 1 by omega, base (n + us) t (by omega), if_pos hr, if_neg n10, w4 n (t + 1) (by omega), show t + 1 + us = t + (us + 1) by omega]
          · have hr' : hrB B S (hAI h1 (c + 188)) (Int32.ofNat (msz S f)) = false := by simpa using hr
            have N2 := N1.next (by omega) s hr'
            have md : msz S (f + 1) = msz S f + 1 := by rw [msz_s, if_pos s]
            -- the next field of the set starts anew
            have nx : ∃ h2 : MHp, Se c h1 h2 ∧ Tv c S (f + 1) x v1 B h2 ∧ NR B S (f + 1) (hAI h2 (c + 188)) ∧ (∀ g : Nat, f + 1 ≤ g → g < 6 → S.testBit g = true → (∀ g' : Nat, f + 1 ≤ g' → g' < g → ¬ S.testBit g' = true) → hAI h2 (c + 188) g = -1) ∧ ∀ n t : Nat, t < 1000000 → mX5_findValues_l21 (n + 1) h (c + 185) (Int32.ofNat (msz S 6)) (Int32.ofNat (msz S f)) (Int32.ofNat t) = mX5_findValues_l21 n h2 (c + 185) (Int32.ofNat (msz S 6)) (Int32.ofNat (msz S (f + 1))) (Int32.ofNat (t + 1)) := by
              by_cases fin : msz S 6 ≤ msz S f + 1
              · refine ⟨h1, Se.rf, T1, N2, fun g hg hg6 hs _ => ?_, fun n t ht => ?_⟩
                · have a1 := msz_mono S (g - (f + 1)) (f + 1)
                  rw [show f + 1 + (g - (f + 1)) = g by omega] at a1
                  have a2 := msz_lt (g := 6) hs hg6
                  omega
                · rw [base n t ht, if_neg hr, if_pos rfl, s1_of, if_pos (by rw [le_of (by omega) (by omega)]; omega), md]
              · obtain ⟨g, g1, g2, g3, g4⟩ : ∃ g : Nat, f + 1 ≤ g ∧ g < 6 ∧ S.testBit g = true ∧ ∀ g' : Nat, f + 1 ≤ g' → g' < g → ¬ S.testBit g' = true := by
                  apply Classical.byContradiction
                  intro hn
                  have all : ∀ q' : Nat, f + 1 + q' ≤ 6 → (∀ g : Nat, f + 1 ≤ g → g < f + 1 + q' → ¬ S.testBit g = true) := by
                    intro q'
                    induction q' with
                    | zero => intro _ g a b; omega
                    | succ q' ih' =>
                      intro hle g a b hs
                      by_cases e : g = f + 1 + q'
                      · exact hn ⟨g, a, by omega, hs, fun g' x y => ih' (by omega) g' x (by omega)⟩
                      · exact ih' (by omega) g a (by omega) hs
                  have cst : ∀ q' : Nat, f + 1 + q' ≤ 6 → msz S (f + 1 + q') = msz S (f + 1) := by
                    intro q'
                    induction q' with
                    | zero => intro _; rfl
                    | succ q' ih' =>
                      intro hle
                      rw [show f + 1 + (q' + 1) = (f + 1 + q') + 1 by omega, msz_s, ih' (by omega), if_neg (all (q' + 1) (by omega) _ (by omega) (by omega))]; rfl
                  have := cst (6 - (f + 1)) (by omega)
                  rw [show f + 1 + (6 - (f + 1)) = 6 by omega] at this
                  omega
                have mg : msz S g = msz S f + 1 := by
                  have cst : ∀ q' : Nat, f + 1 + q' ≤ g → msz S (f + 1 + q') = msz S (f + 1) := by
                    intro q'
                    induction q' with
                    | zero => intro _; rfl
                    | succ q' ih' =>
                      intro hle
                      rw [show f + 1 + (q' + 1) = (f + 1 + q') + 1 by omega, msz_s, ih' (by omega), if_neg (g4 _ (by omega) (by omega))]; rfl
                  have := cst (g - (f + 1)) (by omega)
                  rw [show f + 1 + (g - (f + 1)) = g by omega, md] at this
                  exact this
                have es := p_startAt (d := msz S f + 1) G1 g2 (by have := msz_lt (g := 6) g3 g2; omega) (by rw [← mg]; exact M1.1 g g2 g3)
                obtain ⟨h2, hh2⟩ : ∃ h2 : MHp, h2 = sAI h1 (c + 188) (va_up (hAI h1 (c + 188)) g (-1)) := ⟨_, rfl⟩
                rw [← hh2] at es
                have E2 : Se c h1 h2 := ⟨by rw [hh2]; exact Sc.AI 188 _ (by decide), by rw [hh2]; rfl, fun a x => by rw [hh2, e_sAI, if_neg x]⟩
                have tr2 : ∀ g' : Nat, hAI h2 (c + 188) g' = if g' = g then -1 else hAI h1 (c + 188) g' := fun g' => by rw [hh2, e_sAI, if_pos rfl, e_up]
                refine ⟨h2, E2, ⟨fun g' a ns => by rw [tr2, if_neg (fun q => ns (by rw [q]; exact g3))]; exact T1.1 g' a ns, fun g' a b hs => by rw [tr2, if_neg (by omega)]; exact T1.2 g' a b hs⟩, N2.congr r4 (fun g' a hs => by rw [tr2, if_neg (fun q => by have := hs (by rw [q]; exact g3); omega)]), fun g' a b hs nf => ?_, fun n t ht => ?_⟩
                · have : g' = g := by
                    rcases Nat.lt_trichotomy g' g with h | h | h
                    · exact absurd hs (g4 g' a h)
                    · exact h
                    · exact absurd g3 (nf g g1 h)
                  rw [tr2, if_pos this]
                · rw [base n t ht, if_neg hr, if_pos rfl, s1_of, if_neg (by rw [le_of (by omega) (by omega)]; omega), b_rcv, if_pos (lK185 L1), es, o_bind, md]
            obtain ⟨h2, E2, T2, N3, F2, st⟩ := nx
            have G2 := G1.sc E2.1
            have M2 := M1.e E2
            obtain ⟨us, u1, u2⟩ := ih (f + 1) v1 h2 (by omega) G2 M2 T2 N3 F2
            rcases u2 with ⟨h3, v3, w1, w2, w3, w4, w5, w6⟩ | ⟨h3, w1, w2, w3, w4⟩
            · refine ⟨us + 1, by rw [Nat.add_mul]; omega, Or.inl ⟨h3, v3, fun g hg hs => by rw [w1 g (by omega) hs, v1g g (by omega)], w2, fun u hu he hl => ?_, w4, (E1.tr E2).tr w5, fun n t ht => ?_⟩⟩
              · have lo := hl s (by omega)
                by_cases q : u f = a
                · exact w3 u hu (fun g hg hs => by
                    by_cases e : g = f
                    · subst e; rw [v1f]; exact q
                    · rw [v1g g e]; exact he g (by omega) hs) (fun _ _ => Nat.zero_le _)
                · exact Nat.le_of_lt (cd_lt (i := f) hfB s w2.1 (fun g hg hs => by rw [w1 g (by omega) hs, v1g g (by omega), he g hg hs]) (by rw [w1 f (by omega) s, v1f]; omega))
              · rw [show n + (us + 1) + 1 = (n + us + 1) + 1 by omega, st (n + us + 1) t (by omega), w6 n (t + 1) (by omega)]
            · have G3 := G2.sc w3.1
              have M3 := M2.e w3
              have t3 := w1.2 f (by omega) (by omega) s
              have T3 : Tv c S f x v B h3 := ⟨w1.1, fun g hg hg6 hs => by
                have := w1.2 g (by omega) hg6 hs
                rw [v1g g (by omega)] at this
                exact this⟩
              have N4 : NR B S f (hAI h3 (c + 188)) := N.congr r4 (fun g hg hs => by
                by_cases sg : S.testBit g = true
                · rw [(T.2 g (hs sg) (by omega) sg).1, (T3.2 g (hs sg) (by omega) sg).1]
                · rw [T.1 g (by omega) sg, T3.1 g (by omega) sg])
              obtain ⟨us2, x1, x2⟩ := ihz (a + 1) h3 (by omega) G3 M3 T3 N4 (by rw [t3.1, v1f, prv_s])
              have dp : Int32.ofNat (msz S (f + 1)) + (-1) = Int32.ofNat (msz S f) := by
                rw [md, ← s1_of]; grind
              have lift : ∀ u : Nat → Nat, GoodV B x S u → (∀ g : Nat, g < f → S.testBit g = true → u g = v g) → (S.testBit f = true → f < 6 → a ≤ u f) → (S.testBit f = true → f < 6 → a + 1 ≤ u f) := fun u hu he hl hs h6' => by
                have := hl hs h6'
                by_cases q : u f = a
                · exact (w2 u hu (fun g hg hs => by
                    by_cases e : g = f
                    · subst e; rw [v1f]; exact q
                    · rw [v1g g e]; exact he g (by omega) hs) (fun _ _ => Nat.zero_le _)).elim
                · omega
              refine ⟨us2 + us + 1, by rw [Nat.add_mul]; omega, ?_⟩
              rcases x2 with ⟨h4, v4, y1, y2, y3, y4, y5, y6⟩ | ⟨h4, y1, y2, y3, y4⟩
              · refine Or.inl ⟨h4, v4, y1, y2, fun u hu he hl => y3 u hu he (lift u hu he hl), y4, ((E1.tr E2).tr w3).tr y5, fun n t ht => ?_⟩
                rw [show n + (us2 + us + 1) + 1 = (n + us2 + 1 + us) + 1 by omega, st (n + us2 + 1 + us) t (by omega), w4 (n + us2 + 1) (t + 1) (by omega), dp, y6 n (t + 1 + us) (by omega)]
              · refine Or.inr ⟨h4, y1, fun u hu he hl => y2 u hu he (lift u hu he hl), ((E1.tr E2).tr w3).tr y3, fun n t ht => ?_⟩
                rw [show n + (us2 + us + 1) = (n + us2 + us) + 1 by omega, st (n + us2 + us) t (by omega), w4 (n + us2) (t + 1) (by omega), dp, y4 n (t + 1 + us) (by omega), show t + 1 + us + us2 = t + (us2 + us + 1) by omega]
      have ef : hAI h (c + 188) f = prv 0 := F f (Nat.le_refl _) (by omega) s (fun g' a b => by omega)
      obtain ⟨us, u1, u2⟩ := R (bT B f + 1) 0 h (by omega) G M T N ef
      exact ⟨us, by rw [kc_s, if_pos s]; exact u1, u2⟩
    · have mf : msz S (f + 1) = msz S f := by rw [msz_s, if_neg s]; rfl
      have nn : ∀ u w : Nat → Nat, (∀ g : Nat, g < f → S.testBit g = true → u g = w g) → ∀ g : Nat, g < f + 1 → S.testBit g = true → u g = w g := fun u w he g hg hs => by
        by_cases e : g = f
        · subst e; exact absurd hs s
        · exact he g (by omega) hs
      obtain ⟨us, u1, u2⟩ := ih (f + 1) v h (by omega) G M ⟨T.1, fun g hg hg6 hs => by
        by_cases e : g = f
        · subst e; exact absurd hs s
        · exact T.2 g (by omega) hg6 hs⟩ (N.skip s) (fun g a b hs nf => F g (by omega) b hs (fun g' x y => by
        by_cases e : g' = f
        · subst e; exact s
        · exact nf g' (by omega) y))
      refine ⟨us, by rw [kc_s, if_neg s]; exact u1, ?_⟩
      rcases u2 with ⟨h2, v2, w1, w2, w3, w4, w5, w6⟩ | ⟨h2, w1, w2, w3, w4⟩
      · refine Or.inl ⟨h2, v2, fun g hg hs => w1 g (by omega) hs, w2, fun u hu he _ => w3 u hu (nn u v he) (fun _ _ => Nat.zero_le _), w4, w5, fun n t ht => ?_⟩
        rw [← mf]; exact w6 n t ht
      · refine Or.inr ⟨h2, ⟨w1.1, fun g hg hg6 hs => w1.2 g (by omega) hg6 hs⟩, fun u hu he _ => w2 u hu (nn u v he) (fun _ _ => Nat.zero_le _), w3, fun n t ht => ?_⟩
        rw [← mf]; exact w4 n t ht

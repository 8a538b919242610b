/-! least, the reference and the pairing -/
def lsE : Option Nat → Int32
  | none => -2
  | some b => Int32.ofNat b
def lsR (A : AS) (k : Nat) : Option Nat → Int32
  | none => 0
  | some b => Int32.ofNat (kR A k b)
def lsEnd (k92 : MHp → Nat → Int32 → Int32 → Int32 → Option (Int32 × MHp)) (h : MHp) (m : Nat) (v2 v3 v4 v5 : Int32) : Option (Int32 × MHp) := (if v2 = (-2) then mX16_least_b191 k92 h m v2 v3 v4 v5 else (if v5 < v3 then mX16_least_b191 k92 h m v2 v3 v4 v5 else (if v5 = v3 then (mX16_bits h v4).bind fun r9 => (mX16_bits h v2).bind fun r10 => (if r10 ≤ r9 then mX16_least_b195 k92 h m v2 v3 v4 v5 else mX16_least_b191 k92 h m v2 v3 v4 v5) else mX16_least_b195 k92 h m v2 v3 v4 v5)))
theorem q_rwl {m k S : Nat} {h : MHp} {A : AS} (G : Rc m (vs (aB A) (pI1 (aP A k))) (vs (aB A) (pI2 (aP A k))) h) (hn : vs (aB A) (pI1 (aP A k)) * vs (aB A) (pI2 (aP A k)) ≤ 12) (hx : ∀ cl : Nat, cl < vs (aB A) (pI1 (aP A k)) * vs (aB A) (pI2 (aP A k)) → hAI h (m + 19) cl = Int32.ofInt (cnI A k cl)) (k92 : MHp → Nat → Int32 → Int32 → Int32 → Option (Int32 × MHp)) (v2 v3 : Int32) : ∀ (q cl fu a : Nat), cl + q = vs (aB A) (pI1 (aP A k)) * vs (aB A) (pI2 (aP A k)) → q < fu → mX16_least_l114 k92 fu h m v2 v3 (Int32.ofNat S) (Int32.ofNat a) (Int32.ofNat cl) = lsEnd k92 h m v2 v3 (Int32.ofNat S) (Int32.ofNat (a + rwN (fun cl => ctN (cnQ A k cl) (aN A 2) 0) S q cl)) := by
  intro q
  obtain ⟨L, g1, g2, g3, g4, g5⟩ := id G
  have K := qK0 L
  induction q with
  | zero =>
    intro cl fu a hq hf
    obtain ⟨fu, rfl⟩ : ∃ g : Nat, fu = g + 1 := ⟨fu - 1, by omega⟩
    rw [mX16_least_l114, b_gI, if_pos K, g1, b_gI, if_pos K, g2, ← Int32.ofNat_mul, if_pos (by rw [le_of (by omega) (by omega)]; omega)]; rfl
  | succ q ih =>
    intro cl fu a hq hf
    obtain ⟨fu, rfl⟩ : ∃ g : Nat, fu = g + 1 := ⟨fu - 1, by omega⟩
    have bw := bad_n (k := cl) (n := 100) (by omega) (by omega)
    have clw : (Int32.ofNat cl).toNatClampNeg = cl := cl_of (by omega)
    have e : (((Int32.ofNat S >>> (Int32.ofNat cl &&& 31)) &&& 1) = 1) = (S.testBit cl = true) := by
      rw [mb_pos, mb_N (by omega)]
    rw [mX16_least_l114, b_gI, if_pos K, g1, b_gI, if_pos K, g2, ← Int32.ofNat_mul, if_neg (by rw [le_of (by omega) (by omega)]; omega), rwN_s]
    by_cases g : S.testBit cl = true
    · rw [if_pos (by rw [e]; exact g), if_pos g, b_gR, if_pos K, qR42 L, b_gAI, if_pos (qK19 L), qN19 L, if_neg bw, clw, hx cl (by omega), cnI, oI_n, mX16_least_b152, s1_of, ← Int32.ofNat_add, ih (cl + 1) fu _ (by omega) (by omega), Nat.add_assoc]
    · rw [if_neg (by rw [e]; exact g), if_neg g, mX16_least_b152, s1_of, Int32.add_zero, ih (cl + 1) fu _ (by omega) (by omega), Nat.zero_add]
theorem q_lsl {m k : Nat} {A : AS} (W : WA A) (hk : k < aN A 1) (hn : vs (aB A) (pI1 (aP A k)) * vs (aB A) (pI2 (aP A k)) ≤ 12) : ∀ (q s fu : Nat) (bo : Option Nat) (h : MHp), RR m h A → Rc m (vs (aB A) (pI1 (aP A k))) (vs (aB A) (pI2 (aP A k))) h → (∀ cl : Nat, cl < vs (aB A) (pI1 (aP A k)) * vs (aB A) (pI2 (aP A k)) → hAI h (m + 19) cl = Int32.ofInt (cnI A k cl)) → (bo = none → ∀ T : Nat, T < s → ¬ wN A k T) → (∀ b : Nat, bo = some b → b < s ∧ wN A k b ∧ ∀ T : Nat, T < s → wN A k T → ¬ klt A k T b) → s + q = 2 ^ (vs (aB A) (pI1 (aP A k)) * vs (aB A) (pI2 (aP A k))) → q < fu → ∃ (h' : MHp) (bo' : Option Nat), mX16_least_l92 fu h m (lsE bo) (lsR A k bo) (Int32.ofNat s) = some (lsE bo', rtb m h' 0) ∧ Rq m h h' ∧ (bo' = none → ∀ T : Nat, T < 2 ^ (vs (aB A) (pI1 (aP A k)) * vs (aB A) (pI2 (aP A k))) → ¬ wN A k T) ∧ ∀ b : Nat, bo' = some b → LsOk A k b := by
  intro q
  have p12 : 2 ^ (vs (aB A) (pI1 (aP A k)) * vs (aB A) (pI2 (aP A k))) ≤ 4096 := Nat.pow_le_pow_right (show 0 < 2 by omega) hn
  induction q with
  | zero =>
    intro s fu bo h R G hx i1 i2 hs hf
    obtain ⟨fu, rfl⟩ : ∃ g : Nat, fu = g + 1 := ⟨fu - 1, by omega⟩
    obtain ⟨L, g1, g2, g3, g4, g5⟩ := id G
    have K := qK0 L
    have es : s = 2 ^ (vs (aB A) (pI1 (aP A k)) * vs (aB A) (pI2 (aP A k))) := by omega
    refine ⟨h, bo, ?_, ⟨Rs.rf, rfl, rfl⟩, fun hb => by rw [← es]; exact i1 hb, fun b hb => ?_⟩
    · rw [mX16_least_l92, b_gI, if_pos K, g1, b_gI, if_pos K, g2, ← Int32.ofNat_mul, sl_N hn, if_pos (by rw [le_of (by omega) (by omega)]; omega), b_rcv, if_pos K, q_done L, o_bind]
    · have := i2 b hb
      rw [es] at this
      exact this
  | succ q ih =>
    intro s fu bo h R G hx i1 i2 hs hf
    obtain ⟨fu, rfl⟩ : ∃ g : Nat, fu = g + 1 := ⟨fu - 1, by omega⟩
    obtain ⟨L, g1, g2, g3, g4, g5⟩ := id G
    have K := qK0 L
    have hs12 : s < 4096 := by omega
    have step : mX16_least_l92 (fu + 1) h m (lsE bo) (lsR A k bo) (Int32.ofNat s) = lsEnd (mX16_least_l92 fu) h m (lsE bo) (lsR A k bo) (Int32.ofNat s) (Int32.ofNat (kR A k s)) := by
      have e := q_rwl (S := s) G hn hx (mX16_least_l92 fu) (lsE bo) (lsR A k bo) (vs (aB A) (pI1 (aP A k)) * vs (aB A) (pI2 (aP A k))) 0 FUEL 0 (by omega) (by unfold FUEL; omega)
      rw [Nat.zero_add] at e
      have e' : mX16_least_l114 (mX16_least_l92 fu) FUEL h m (lsE bo) (lsR A k bo) (Int32.ofNat s) 0 0 = _ := e
      rw [mX16_least_l92, b_gI, if_pos K, g1, b_gI, if_pos K, g2, ← Int32.ofNat_mul, sl_N hn, if_neg (by rw [le_of (by omega) (by omega)]; omega), e']
      rfl
    -- not ahead
    have behind : (∀ b : Nat, bo = some b → ¬ klt A k s b) → (bo ≠ none) → lsEnd (mX16_least_l92 fu) h m (lsE bo) (lsR A k bo) (Int32.ofNat s) (Int32.ofNat (kR A k s)) = mX16_least_b195 (mX16_least_l92 fu) h m (lsE bo) (lsR A k bo) (Int32.ofNat s) (Int32.ofNat (kR A k s)) → ∃ (h' : MHp) (bo' : Option Nat), mX16_least_l92 (fu + 1) h m (lsE bo) (lsR A k bo) (Int32.ofNat s) = some (lsE bo', rtb m h' 0) ∧ Rq m h h' ∧ (bo' = none → ∀ T : Nat, T < 2 ^ (vs (aB A) (pI1 (aP A k)) * vs (aB A) (pI2 (aP A k))) → ¬ wN A k T) ∧ ∀ b : Nat, bo' = some b → LsOk A k b := by
      intro nk nn e0
      obtain ⟨h2, b2, e2, S2, r2⟩ := ih (s + 1) fu bo h R G hx (fun hb => absurd hb nn) (fun b hb => by
        obtain ⟨j1, j2, j3⟩ := i2 b hb
        refine ⟨by omega, j2, fun T hT hw => ?_⟩
        by_cases e : T = s
        · subst e; exact nk b hb
        · exact j3 T (by omega) hw) (by omega) (by omega)
      refine ⟨h2, b2, ?_, S2, r2⟩
      rw [step, e0, mX16_least_b195, mX16_least_b196, if_pos rfl, mX16_least_b222, s1_of, e2]
    have ahead : (∀ b : Nat, bo = some b → klt A k s b) → lsEnd (mX16_least_l92 fu) h m (lsE bo) (lsR A k bo) (Int32.ofNat s) (Int32.ofNat (kR A k s)) = mX16_least_b191 (mX16_least_l92 fu) h m (lsE bo) (lsR A k bo) (Int32.ofNat s) (Int32.ofNat (kR A k s)) → ∃ (h' : MHp) (bo' : Option Nat), mX16_least_l92 (fu + 1) h m (lsE bo) (lsR A k bo) (Int32.ofNat s) = some (lsE bo', rtb m h' 0) ∧ Rq m h h' ∧ (bo' = none → ∀ T : Nat, T < 2 ^ (vs (aB A) (pI1 (aP A k)) * vs (aB A) (pI2 (aP A k))) → ¬ wN A k T) ∧ ∀ b : Nat, bo' = some b → LsOk A k b := by
      intro yk e0
      obtain ⟨h1, f1, S1⟩ := q_isWide (out := Int64.ofNat s) W hk R G hx
      have R1 := R.sc S1.1
      have G1 := G.sc S1.1 S1.2.1
      have hx1 : ∀ cl : Nat, cl < vs (aB A) (pI1 (aP A k)) * vs (aB A) (pI2 (aP A k)) → hAI h1 (m + 19) cl = Int32.ofInt (cnI A k cl) := fun cl hcl => by rw [S1.2.2]; exact hx cl hcl
      by_cases w : wdA A k (Int64.ofNat s) = true
      · rw [if_pos w] at f1
        obtain ⟨h2, b2, e2, S2, r2⟩ := ih (s + 1) fu (some s) h1 R1 G1 hx1 (fun hb => by cases hb) (fun b hb => by
          have := Option.some.inj hb
          subst this
          refine ⟨by omega, w, fun T hT hw => ?_⟩
          by_cases e : T = s
          · subst e; unfold klt; omega
          · cases hbo : bo with
            | none => exact absurd hw (i1 hbo T (by omega))
            | some b0 =>
              have j3 := (i2 b0 hbo).2.2 T (by omega) hw
              have y := yk b0 hbo
              unfold klt at j3 y ⊢
              omega) (by omega) (by omega)
        refine ⟨h2, b2, ?_, S1.tr S2, r2⟩
        rw [step, e0, mX16_least_b191, mX16_least_b196, if_neg n10, b_rcv, if_pos K, l_i (by omega), f1, o_bind, if_neg n10, mX16_least_b222, s1_of]
        exact e2
      · rw [if_neg w] at f1
        obtain ⟨h2, b2, e2, S2, r2⟩ := ih (s + 1) fu bo h1 R1 G1 hx1 (fun hb T hT => by
          by_cases e : T = s
          · subst e; exact w
          · exact i1 hb T (by omega)) (fun b hb => by
          obtain ⟨j1, j2, j3⟩ := i2 b hb
          refine ⟨by omega, j2, fun T hT hw => ?_⟩
          by_cases e : T = s
          · subst e; exact absurd hw w
          · exact j3 T (by omega) hw) (by omega) (by omega)
        refine ⟨h2, b2, ?_, S1.tr S2, r2⟩
        rw [step, e0, mX16_least_b191, mX16_least_b196, if_neg n10, b_rcv, if_pos K, l_i (by omega), f1, o_bind, if_pos rfl, mX16_least_b222, s1_of, e2]
    cases hbo : bo with
    | none =>
      rw [hbo] at ahead
      exact ahead (fun b hb => by cases hb) (by unfold lsEnd; rw [if_pos (show lsE none = -2 from rfl)])
    | some b =>
      rw [hbo] at ahead behind
      obtain ⟨j1, j2, j3⟩ := i2 b hbo
      have m1 : vs (aB A) (pI1 (aP A k)) * vs (aB A) (pI2 (aP A k)) * 60 ≤ 12 * 60 := Nat.mul_le_mul_right 60 hn
      have r1 := kR_le W k s
      have r2 := kR_le W k b
      have b1 := sumB_le 12 s
      have b2 := sumB_le 12 b
      have n2 : ¬ lsE (some b) = -2 := nm2_of (by omega)
      have lt1 : (Int32.ofNat (kR A k s) < Int32.ofNat (kR A k b)) = (kR A k s < kR A k b) := lt_of (by omega) (by omega)
      have eq1 : (Int32.ofNat (kR A k s) = Int32.ofNat (kR A k b)) = (kR A k s = kR A k b) := eq_of (by omega) (by omega)
      have le1 : (Int32.ofNat (sumB 12 b) ≤ Int32.ofNat (sumB 12 s)) = (sumB 12 b ≤ sumB 12 s) := le_of (by omega) (by omega)
      have f1 := q_bitsN h hs12
      have f2 : mX16_bits h (lsE (some b)) = some (Int32.ofNat (sumB 12 b)) := q_bitsN h (by omega)
      by_cases a1 : kR A k s < kR A k b
      · exact ahead (fun b' hb => by have := Option.some.inj hb; subst this; exact Or.inl a1) (by unfold lsEnd; rw [if_neg n2, if_pos (by rw [show lsR A k (some b) = Int32.ofNat (kR A k b) from rfl, lt1]; exact a1)])
      · by_cases a2 : kR A k s = kR A k b
        · by_cases a3 : sumB 12 b ≤ sumB 12 s
          · exact behind (fun b' hb => by have := Option.some.inj hb; subst this; unfold klt; omega) (Option.some_ne_none _) (by unfold lsEnd; rw [if_neg n2, if_neg (by rw [show lsR A k (some b) = Int32.ofNat (kR A k b) from rfl, lt1]; exact a1), if_pos (by rw [show lsR A k (some b) = Int32.ofNat (kR A k b) from rfl, eq1]; exact a2), f1, o_bind, f2, o_bind, if_pos (by rw [le1]; exact a3)])
          · exact ahead (fun b' hb => by have := Option.some.inj hb; subst this; unfold klt; omega) (by unfold lsEnd; rw [if_neg n2, if_neg (by rw [show lsR A k (some b) = Int32.ofNat (kR A k b) from rfl, lt1]; exact a1), if_pos (by rw [show lsR A k (some b) = Int32.ofNat (kR A k b) from rfl, eq1]; exact a2), f1, o_bind, f2, o_bind, if_neg (by rw [le1]; exact a3)])
        · exact behind (fun b' hb => by have := Option.some.inj hb; subst this; unfold klt; omega) (Option.some_ne_none _) (by unfold lsEnd; rw [if_neg n2, if_neg (by rw [show lsR A k (some b) = Int32.ofNat (kR A k b) from rfl, lt1]; exact a1), if_neg (by rw [show lsR A k (some b) = Int32.ofNat (kR A k b) from rfl, eq1]; exact a2)])
theorem lst_b {c : Nat} {h : MHp} (L : CL c h) (t : Int32) (v : Int32) (hv : ¬ v = 0) : mX11_least_b40 h c t (some c) v = some (-3, sI h c 15 v) := by
  have K : hK (sI h c 15 v) c = 12 := lK0 L
  rw [mX11_least_b40, b_pI, if_pos (lK0 L), b_gI, if_pos K, e_Iself, if_neg hv]
theorem q_lost3 {m : Nat} {h : MHp} (L : QL m h) (t : Int32) : mX16_leastLost h m t = some (-3, rtb m h t) := by
  rw [mX16_leastLost, b_pI, if_pos (qK0 L), b_pI, if_pos (show hK (sI h m 1 t) m = 17 from qK0 L)]
  rfl
theorem x_least {c m : Nat} {h : MHp} {A : AS} (C : CR c h A) (W : WA A) (t : Int32) : XS c m h A (mX11_least h c t) (fun h1 => mX16_least h1 m t) := by
  have L := C.l
  have h8 := W.2.2.1
  rcases rng t (aN A 1) with ⟨k, hk, rfl⟩ | hno
  · have e1 := p_hasTable1 C W hk
    have e2 := p_hasGuarded C W hk
    have WPk := W.2.2.2.2.2.1 k hk
    have b0 := gf_pos W hk
    have bd := bad_n (k := k) (n := 9) (by omega) (by omega)
    have bk := bad_n (k := k) (n := 8) (by omega) (by omega)
    have clk : (Int32.ofNat k).toNatClampNeg = k := cl_of (by omega)
    obtain ⟨c1, c2, c3, -, -⟩ := C.plan W hk
    have r64 : ∀ h1 : MHp, RR m h1 A → mX16_least_b64 (sI h1 m 0 0) m = some (-3, rtb m (sI h1 m 0 0) 5) := fun h1 R => by
      have M := (R.th 0).1.1
      rw [mX16_least_b64, b_rcv, if_pos (qK0 M), q_lost3 M 5, o_bind]
    by_cases g : gdB (aB A) (aP A k) = true
    · rw [if_pos g] at e2
      have n60 := gdB_60 g
      have base : mX11_least h c (Int32.ofNat k) = (if vs (aB A) (pI1 (aP A k)) * vs (aB A) (pI2 (aP A k)) ≤ 12 then mX11_least_b40 h c (Int32.ofNat k) (some c) 0 else mX11_least_b40 h c (Int32.ofNat k) (some c) 5) := by
        rw [mX11_least, b_rcv, if_pos (lK0 L), e1, o_bind, if_neg n10, b_rcv, if_pos (lK0 L), e2, o_bind, if_neg n10, b_gR, if_pos (lK0 L), lR0_3 L, b_gAR, if_pos (lK119 L), lN119 L, if_neg bd, clk, c2, b_rcv, if_pos c1.1, p_cells c1 c3, o_bind]
        by_cases n : vs (aB A) (pI1 (aP A k)) * vs (aB A) (pI2 (aP A k)) ≤ 12
        · rw [if_neg (by rw [show (12 : Int32) = Int32.ofNat 12 from rfl, lt_of (by omega) (by omega)]; omega), if_pos n]
        · rw [if_pos (by rw [show (12 : Int32) = Int32.ofNat 12 from rfl, lt_of (by omega) (by omega)]; omega), if_neg n, mX11_least_b39]
      have rbase : ∀ h1 : MHp, RR m h1 A → ∃ (b p : Nat), RQ m b (aN A 2) (sI h1 m 0 0) A ∧ RP (m + 26) (sI h1 m 0 0) p (aP A k) ∧ mX16_least h1 m (Int32.ofNat k) = (if vs (aB A) (pI1 (aP A k)) * vs (aB A) (pI2 (aP A k)) ≤ 12 then (mX16_counts (sI h1 m 0 0) m (some p) (some (m + 19))).bind fun r44 => mX16_least_l92 FUEL r44 m (-2) 0 0 else mX16_least_b64 (sI h1 m 0 0) m) := by
        intro h1 R
        have R2 := R.th 0
        have M := R2.1.1
        have f1 := q_isTable1 R2 W hk
        obtain ⟨b, Q⟩ := R2.rq W b0
        obtain ⟨p, q1, q2, -, -⟩ := R2.2.2.2.2.2 k hk
        have f2 := q_isByTwo Q q2 WPk
        rw [if_pos g] at f2
        have v1 := q_valuesOf Q WPk.2.1
        have v2 := q_valuesOf Q WPk.2.2.1
        refine ⟨b, p, Q, q2, ?_⟩
        rw [mX16_least, b_pI, if_pos (qK0 R.1.1), b_rcv, if_pos (qK0 M), f1, o_bind, if_neg n10, b_gR, if_pos (qK0 M), qR6 M, b_gAR, if_pos (qK1 M), qN1 M, if_neg bk, clk, q1, b_rcv, if_pos (qK0 M), f2, o_bind, if_neg n10, b_gR, if_pos (qK0 M), qR6 M, b_gAR, if_pos (qK1 M), qN1 M, if_neg bk, clk, q1, b_gI, if_pos q2.1.1, q2.2.2.1, b_rcv, if_pos (qK0 M), v1, o_bind, b_gR, if_pos (qK0 M), qR6 M, b_gAR, if_pos (qK1 M), qN1 M, if_neg bk, clk, q1, b_gI, if_pos q2.1.1, q2.2.2.2.1, b_rcv, if_pos (qK0 M), v2, o_bind, ← Int32.ofNat_mul]
        by_cases n : vs (aB A) (pI1 (aP A k)) * vs (aB A) (pI2 (aP A k)) ≤ 12
        · rw [if_pos (by rw [show (12 : Int32) = Int32.ofNat 12 from rfl, le_of (by omega) (by omega)]; exact n), if_pos n, b_gR, if_pos (qK0 M), qR6 M, b_gAR, if_pos (qK1 M), qN1 M, if_neg bk, clk, q1, b_gR, if_pos (qK0 M), qR42 M, b_rcv, if_pos (qK0 M)]
        · rw [if_neg (by rw [show (12 : Int32) = Int32.ofNat 12 from rfl, le_of (by omega) (by omega)]; exact n), if_neg n]
      by_cases n : vs (aB A) (pI1 (aP A k)) * vs (aB A) (pI2 (aP A k)) ≤ 12
      · have C2 : CR c (sI h c 15 0) (tb A 0) := C.tb (by decide)
        have W2 : WA (tb A 0) := W.tb
        have L2 := C2.l
        have K2 := lK0 L2
        have e5 := p_hasTable1 C2 W2 hk
        obtain ⟨p1, p2, p3, -, -⟩ := C2.plan W2 hk
        obtain ⟨h3, e6, S3, G3, zi, zc⟩ := c_open C2 W2 hk g
        have C3 := C2.sc W2 S3
        have L3 := C3.l
        have x6 : hAI h3 (c + 184) 0 = aS A 6 := C3.2.2.1.1
        have x7 : hAI h3 (c + 184) 1 = aS A 7 := C3.2.2.1.2.1
        have e7 : mX3_shyCells h3 (c + 200) (aS A 6) = some (msL (shQ A k) (vs (aB A) (pI1 (aP A k)) * vs (aB A) (pI2 (aP A k))) 0 0) := p_shyCells (A := tb A 0) L3 G3.2.1 G3.2.2.1 n60 zc
        obtain ⟨h4, r, e8, S4, er⟩ := p_leastSet W2 hk n G3 zc
        have e8' : mX3_leastSet h3 (c + 200) (msL (shQ A k) (vs (aB A) (pI1 (aP A k)) * vs (aB A) (pI2 (aP A k))) 0 0) (aS A 7) = some (r, h4) := e8
        refine ⟨r, tb A 0, W2, ⟨h4, ?_, C3.sc W2 S4.1, ((Oc.I0 15 0).tr S3.oc).tr S4.1.oc⟩, fun h1 R => ?_⟩
        · rw [base, if_pos n, mX11_least_b40, b_pI, if_pos (lK0 L), b_gI, if_pos K2, e_Iself, if_pos (show (0 : Int32) = 0 from rfl), b_rcv, if_pos K2, e5, o_bind, if_neg n10, b_gR, if_pos K2, lR0_10 L2, b_gR, if_pos K2, lR0_3 L2, b_gAR, if_pos (lK119 L2), lN119 L2, if_neg bd, clk, p2, b_rcv, if_pos (lK200 L2), e6, o_bind, b_gR, if_pos (lK0 L3), lR0_10 L3, b_gR, if_pos (lK0 L3), lR0_10 L3, b_gR, if_pos (lK0 L3), lR0_5 L3, b_gAI, if_pos (lK184 L3), lN184 L3, if_neg (show ¬ bad 0 4 = true by decide), show (0 : Int32).toNatClampNeg = 0 from rfl, x6, b_rcv, if_pos (lK200 L3), e7, o_bind, b_gR, if_pos (lK0 L3), lR0_5 L3, b_gAI, if_pos (lK184 L3), lN184 L3, if_neg (show ¬ bad 1 4 = true by decide), show (1 : Int32).toNatClampNeg = 1 from rfl, x7, b_rcv, if_pos (lK200 L3), e8', o_bind]
        · have R2 := R.th 0
          obtain ⟨b, p, Q, q2, f0⟩ := rbase h1 R
          obtain ⟨h5, f3, S5, G5, zr, -⟩ := r_open Q q2 W hk g
          have R5 := R2.sc S5
          have p12 : 2 ^ (vs (aB A) (pI1 (aP A k)) * vs (aB A) (pI2 (aP A k))) ≤ 4096 := Nat.pow_le_pow_right (show 0 < 2 by omega) n
          have fuN : 2 ^ (vs (aB A) (pI1 (aP A k)) * vs (aB A) (pI2 (aP A k))) < FUEL := by unfold FUEL; omega
          obtain ⟨h6, bo, f4, S6, r1, r2⟩ := q_lsl W hk n (2 ^ (vs (aB A) (pI1 (aP A k)) * vs (aB A) (pI2 (aP A k)))) 0 FUEL none h5 R5 G5 zr (fun _ T hT => by omega) (fun b hb => by cases hb) (by omega) fuN
          have f4' : mX16_least_l92 FUEL h5 m (-2) 0 0 = some (lsE bo, rtb m h6 0) := f4
          have ev : lsE bo = r := by
            cases hbo : bo with
            | none =>
              rcases er with ⟨b, -, lb⟩ | ⟨e, -⟩
              · exact absurd lb.2.1 (r1 hbo b lb.1)
              · rw [e]; rfl
            | some b' =>
              have l' := r2 b' hbo
              rcases er with ⟨b, e, lb⟩ | ⟨-, no⟩
              · have lb' : LsOk A k b := lb
                rw [e, lb'.un l']; rfl
              · exact absurd l'.2.1 (no b' l'.1)
          refine ⟨rtb m h6 0, ?_, (R5.sc S6.1).tb (by decide), (((Om.th 0).tr S5.om).tr S6.1.om).tr Om.tb⟩
          show mX16_least h1 m (Int32.ofNat k) = _
          rw [f0, if_pos n, f3, o_bind, f4', ev]
      · refine XS.no (v := -3) 5 (by decide) C W (fun _ _ => Or.inr trivial) ?_ (fun h1 R => ⟨sI h1 m 0 0, Rs.I 0 0 (by decide), ?_⟩)
        · rw [base, if_neg n, lst_b L _ 5 n50]
        · obtain ⟨b, p, Q, q2, f0⟩ := rbase h1 R
          show mX16_least h1 m (Int32.ofNat k) = _
          rw [f0, if_neg n, r64 h1 R]
    · rw [if_neg g] at e2
      refine XS.no (v := -3) 5 (by decide) C W (fun _ _ => Or.inr trivial) ?_ (fun h1 R => ⟨sI h1 m 0 0, Rs.I 0 0 (by decide), ?_⟩)
      · rw [mX11_least, b_rcv, if_pos (lK0 L), e1, o_bind, if_neg n10, b_rcv, if_pos (lK0 L), e2, o_bind, if_pos rfl, mX11_least_b39, lst_b L _ 5 n50]
      · have R2 := R.th 0
        have M := R2.1.1
        have f1 := q_isTable1 R2 W hk
        obtain ⟨b, Q⟩ := R2.rq W b0
        obtain ⟨p, q1, q2, -, -⟩ := R2.2.2.2.2.2 k hk
        have f2 := q_isByTwo Q q2 WPk
        rw [if_neg g] at f2
        show mX16_least h1 m (Int32.ofNat k) = _
        rw [mX16_least, b_pI, if_pos (qK0 R.1.1), b_rcv, if_pos (qK0 M), f1, o_bind, if_neg n10, b_gR, if_pos (qK0 M), qR6 M, b_gAR, if_pos (qK1 M), qN1 M, if_neg bk, clk, q1, b_rcv, if_pos (qK0 M), f2, o_bind, if_pos rfl, r64 h1 R]
  · have e1 := p_hasTable0 C W hno
    refine XS.no (v := -3) 1 (by decide) C W (fun _ _ => Or.inr trivial) ?_ (fun h1 R => ⟨sI h1 m 0 0, Rs.I 0 0 (by decide), ?_⟩)
    · rw [mX11_least, b_rcv, if_pos (lK0 L), e1, o_bind, if_pos rfl, lst_b L _ 1 n10]
    · have R2 := R.th 0
      have M := R2.1.1
      have f1 := q_isTable0 R2 W hno
      show mX16_least h1 m t = _
      rw [mX16_least, b_pI, if_pos (qK0 R.1.1), b_rcv, if_pos (qK0 M), f1, o_bind, if_pos rfl, b_rcv, if_pos (qK0 M), q_lost3 M 1, o_bind]

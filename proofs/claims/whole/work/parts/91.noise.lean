theorem noi_b {c : Nat} {h : MHp} (L : CL c h) (t i j v : Int32) (hv : ¬ v = 0) : mX11_noise_b16 h c t i j (some c) v = some (-9223372036854775808, sI h c 15 v) := by
  have K : hK (sI h c 15 v) c = 12 := lK0 L
  rw [mX11_noise_b16, b_pI, if_pos (lK0 L), b_gI, if_pos K, e_Iself, if_neg hv]
theorem lg0 (x y : Int64) : (lg_cmp x y = 0) = (x = y) := propext (lg_cmp_eq x y)
theorem bad_n {k n : Nat} (h : k < n) (hn : n ≤ 100000) : ¬ bad (Int32.ofNat k) n = true := by rw [bad_of h hn]; decide
theorem p_wasTold {h : MHp} {p cl : Nat} {f : Int64} {t : Nat → Option (Int64 × Int64)} (I : IsP h p) (X : CX h p t) (hc : cl < 100) : mX7_wasTold h p (Int32.ofNat cl) f = some (match t cl with | none => 0 | some x => if x.1 = f then 1 else 0) := by
  obtain ⟨i1, i2, i3, i4, i5, i6, i7, i8, i9⟩ := I
  have c1 : ¬ Int32.ofNat cl < 0 := by rw [nn_of (by omega)]; exact not_false
  have c2 : ¬ (100 : Int32) ≤ Int32.ofNat cl := by rw [show (100 : Int32) = Int32.ofNat 100 from rfl, le_of (by omega) (by omega)]; omega
  have x := X cl hc
  have bd := bad_n (k := cl) (n := 100) hc (by omega)
  rw [mX7_wasTold, if_neg c1, if_neg c2, b_gR, if_pos i1, i4, b_gAL, if_pos i6, i8, if_neg bd, cl_of (by omega)]
  cases e : t cl with
  | none =>
    rw [e] at x
    rw [x, if_pos ((lg_cmp_eq _ _).mpr rfl)]
  | some y =>
    rw [e] at x
    obtain ⟨x1, x2, x3⟩ := x
    rw [x2, if_neg (fun e => x3 ((lg_cmp_eq _ _).mp e)), b_gR, if_pos i1, i3, b_gAL, if_pos i5, i7, if_neg bd, cl_of (by omega), x1]
    by_cases q : y.1 = f
    · rw [if_pos ((lg_cmp_eq _ _).mpr q)]; simp [q]
    · rw [if_neg (fun e => q ((lg_cmp_eq _ _).mp e))]; simp [q]
theorem r_shift {m n : Nat} {A : AS} {p cl : Nat} {v : Int64} : ∀ (q fu i : Nat) (h : MHp) (g : Nat → Int32), QL m h → hI h m 49 = Int32.ofNat n → n < 100 → cl < 100 → RIP h p → hAL h (p + 3) cl = v → i + q = n → q < fu → mX16_noise_l181 fu (sAI h (m + 24) g) m (some p) (Int32.ofNat cl) (Int32.ofNat i) = some (v, rtb m (sAI h (m + 24) (fun k => if i ≤ k ∧ k < n then g (k + 1) else g k)) 0) := by
  intro q
  induction q with
  | zero =>
    intro fu i h g L e1 hn hc I hv hi hf
    obtain ⟨fu, rfl⟩ : ∃ g : Nat, fu = g + 1 := ⟨fu - 1, by omega⟩
    have e2 : Int32.ofNat n ≤ Int32.ofNat i := by rw [le_of (by omega) (by omega)]; omega
    have e3 : (fun k => if i ≤ k ∧ k < n then g (k + 1) else g k) = g := by funext k; rw [if_neg (by omega)]
    have e4 := q_told (h := sAI h (m + 24) g) L v
    have bd := bad_n (k := cl) (n := 100) hc (by omega)
    obtain ⟨j1, j2, j3, j4, j5, j6, j7, j8, j9, j10⟩ := I
    rw [mX16_noise_l181, b_gI, if_pos (show hK (sAI h (m + 24) g) m = 17 from qK0 L), e_I_sAI, e1, if_pos e2, b_gR, if_pos (show hK (sAI h (m + 24) g) p = 15 from j1), e_R_sAI, j4, b_gAL, if_pos (show hK (sAI h (m + 24) g) (p + 3) = 21 from j7), e_N_sAI, j10, if_neg bd, cl_of (by omega), e_AL_sAI, hv, b_rcv, if_pos (show hK (sAI h (m + 24) g) m = 17 from qK0 L), e4, o_bind, e3]
  | succ q ih =>
    intro fu i h g L e1 hn hc I hv hi hf
    obtain ⟨fu, rfl⟩ : ∃ g : Nat, fu = g + 1 := ⟨fu - 1, by omega⟩
    have e2 : ¬ Int32.ofNat n ≤ Int32.ofNat i := by rw [le_of (by omega) (by omega)]; omega
    have e3 : (fun k => if i + 1 ≤ k ∧ k < n then va_up g i (g (i + 1)) (k + 1) else va_up g i (g (i + 1)) k) = (fun k => if i ≤ k ∧ k < n then g (k + 1) else g k) := by
      funext k
      by_cases q : k = i
      · subst q; rw [if_neg (by omega), if_pos (by omega), va_up, if_pos rfl]
      · by_cases q2 : i + 1 ≤ k ∧ k < n
        · rw [if_pos q2, if_pos (by omega), va_up, if_neg (by omega)]
        · rw [if_neg q2, if_neg (by omega), va_up, if_neg q]
    have e4 := ih fu (i + 1) h (va_up g i (g (i + 1))) L e1 hn hc I hv (by omega) (by omega)
    rw [e3] at e4
    simp (maxSteps := 3000000) (disch := omega) only [mX16_noise_l181, qK0 L, e_K_sAI, e_I_sAI, e_R_sAI, e_N_sAI, e1, e2, qR50 L, qK24 L, qN24 L, s1_of, cl_of, e_sAI, e_AI2, e4, ↓o_bind, o_map, ↓b_rcv, ↓b_gI, ↓b_gL, ↓b_gR, ↓b_gN, ↓b_pI, ↓b_pL, ↓b_pR, ↓b_gAI, ↓b_gAL, ↓b_gAR, ↓b_pAI, ↓b_pAL, bad_of, bad_l, Bool.false_eq_true, ↓reduceIte, Int32.reduceLT, Int32.reduceLE, Int32.reduceToNatClampNeg, Int32.reduceOfNat, Int32.reduceAdd, Int32.reduceSub, Int32.reduceMul, Nat.reduceAdd, Nat.reduceMul, Nat.reduceEqDiff]
theorem ofNat_mul_add' (cs u v : Nat) : Int32.ofNat cs * Int32.ofNat u + Int32.ofNat v = Int32.ofNat (u * cs + v) := by rw [Int32.mul_comm, ofNat_mul_add]
theorem nz1_tb (A : AS) (n : Nat) (b t : Int32) : nz1 (tb A t) n b = tb (nz1 A n b) t := by
  unfold nz1 tb setN setS setA
  show mkA _ _ _ _ _ _ = mkA _ _ _ _ _ _
  have e : (fun i => if i = 9 then b else if i = 0 then t else aS A i) = (fun i => if i = 0 then t else if i = 9 then b else aS A i) := by
    funext i
    by_cases q : i = 0
    · subst q; rfl
    · rw [if_neg q, if_neg q]
  exact congrArg (fun s => mkA (fun i => if i = 3 then n else aN A i) s (fun i => if i = 12 then (fun k => aA A 12 (k + 1)) else aA A i) (aB A) (aP A) (aT A)) e
theorem sub1_of {n w : Nat} (h : n + 1 = w) : Int32.ofNat w - 1 = Int32.ofNat n := by
  rw [← h, ← s1_of, Int32.add_sub_cancel]
theorem max_n1 (x : Int64) : ¬ (if lg_cmp 0 x < 0 then x else 0) = -1 := by
  by_cases q : lg_cmp 0 x < 0
  · rw [if_pos q]
    intro e
    rw [e] at q
    exact absurd q (by decide)
  · rw [if_neg q]; decide
set_option maxHeartbeats 20000000 in
theorem x_noise {c m : Nat} {h : MHp} {A : AS} (C : CR c h A) (W : WA A) (t i j : Int32) : XS c m h A (mX11_noise h c t i j) (fun h1 => mX16_noise h1 m t i j) := by
  have L := C.l
  by_cases hc : isC A t i j
  · obtain ⟨k, u, v, hk, hu, hv, rfl, rfl, rfl⟩ := hc
    have e1 := p_hasCell1 C W hk hu hv
    have W0 := W.tb (t := 0)
    have C2 : CR c (sI h c 15 0) (tb A 0) := C.tb (by decide)
    have e4 := p_hasTable1 C2 W0 hk
    obtain ⟨p1, p2, p3, p4, p5⟩ := C2.plan W0 hk
    have e5 := p_cellAt (u := u) (v := v) p1 p3
    obtain ⟨h2, g1, S⟩ := p_sumOf (d := aS A 3) C2 W0 hk (show 0 < 5 by omega) hu hv
    have C3 := C2.sc W0 S
    have L3 := C3.l
    have h8 := W.2.2.1
    have td : hI (sI h c 15 0) (c + 56) 7 = aS A 3 := C2.td
    have hm := vs_mul W.1 p5.2.1 p5.2.2.1
    have hcl := cell_lt hu hv
    obtain ⟨cl, hcl2⟩ : ∃ cl : Nat, cl = u * vs (aB A) (pI2 (aP A k)) + v := ⟨_, rfl⟩
    have hcl3 : cl < 100 := by rw [hcl2]; have : u * vs (aB A) (pI2 (aP A k)) + v < vs (aB A) (pI1 (aP A k)) * vs (aB A) (pI2 (aP A k)) := hcl; have : vs (aB A) (pI1 (aP A k)) * vs (aB A) (pI2 (aP A k)) ≤ 100 := hm; omega
    have g3 : mX2_sumOf (sI h c 15 0) (c + 192) (some (c + 120 + 7 * k)) (Int32.ofNat cl) (aS A 3) 0 = some (figA A (aP A k) (Int32.ofNat u) (Int32.ofNat v) (aS A 3) 0, h2) := by rw [hcl2]; exact g1
    have e6 : mX7_cellAt (sI h c 15 0) (c + 120 + 7 * k) (Int32.ofNat u) (Int32.ofNat v) = some (Int32.ofNat cl) := by rw [hcl2]; exact e5
    obtain ⟨F, hF⟩ : ∃ F : Int64, F = figA A (aP A k) (Int32.ofNat u) (Int32.ofNat v) (aS A 3) 0 := ⟨_, rfl⟩
    rw [← hF] at g3
    have i1 := p1.1
    rw [e_K_sI] at i1
    rw [e_AR_sI] at p2
    obtain ⟨p31, p32, p33, p34, p35⟩ := C3.plan W0 hk
    have e7 := p_wasTold (f := F) p31 p34 hcl3
    have e7' : mX7_wasTold h2 (c + 120 + 7 * k) (Int32.ofNat cl) F = some (match aT A k cl with | none => 0 | some x => if x.1 = F then 1 else 0) := e7
    have i3 := p31.1
    -- the class up to the look at what was told
    have cls : mX11_noise h c (Int32.ofNat k) (Int32.ofNat u) (Int32.ofNat v) = (mX7_wasTold h2 (c + 120 + 7 * k) (Int32.ofNat cl) F).bind fun r15 => (if r15 = 0 then (gR 12 11 h2 (some c)).bind fun x17 => (gI 5 0 h2 x17).bind fun x18 => (if x18 = 0 then mX11_noise_b115 h2 c else (gR 12 5 h2 (some c)).bind fun x19 => (gAI 20 h2 x19 3).bind fun x20 => (if x20 = 0 then mX11_noise_b115 h2 c else (gR 12 5 h2 (some c)).bind fun x21 => (gAI 20 h2 x21 3).bind fun x22 => (pAI 20 h2 x21 3 (x22 - 1)).bind fun h23 => (gR 12 11 h23 (some c)).bind fun x24 => (rcv 5 h23 x24).bind fun b26 => (mX4_take h23 b26).bind fun r25 => (mJ9_max_f86c9 r25.2 0 (F + r25.1.toInt64)).bind fun r27 => (rcv 8 r25.2 (some (c + 120 + 7 * k))).bind fun b29 => (mX7_tell r25.2 b29 (Int32.ofNat cl) F r27).bind fun r28 => some (r27, r28))) else (rcv 8 h2 (some (c + 120 + 7 * k))).bind fun b33 => (mX7_toldAtLast h2 b33 (Int32.ofNat cl)).bind fun r32 => some (r32, h2)) := by
      have bd9 := bad_n (k := k) (n := 9) (by omega) (by omega)
      have K0 : hK (sI h c 15 0) c = 12 := lK0 L
      rw [mX11_noise, b_rcv, if_pos (lK0 L), e1, o_bind, if_neg n10, mX11_noise_b16, b_pI, if_pos (lK0 L), b_gI, if_pos K0, e_Iself, if_pos rfl, b_rcv, if_pos K0, e4, o_bind, if_neg n10, b_gR, if_pos K0, e_R_sI, lR0_3 L, b_gAR, if_pos (show hK (sI h c 15 0) (c + 119) = 24 from lK119 L), e_N_sI, lN119 L, if_neg bd9, cl_of (by omega), e_AR_sI, p2, b_rcv, if_pos (show hK (sI h c 15 0) (c + 120 + 7 * k) = 8 from i1), e6, o_bind, b_gR, if_pos K0, e_R_sI, lR0_7 L, b_gR, if_pos K0, e_R_sI, lR0_2 L, b_gI, if_pos (show hK (sI h c 15 0) (c + 56) = 10 from lK56 L), td, b_rcv, if_pos (show hK (sI h c 15 0) (c + 192) = 3 from lK192 L), g3, o_bind, b_rcv, if_pos i3]
    -- the reference up to there
    have ref : ∀ h1 : MHp, RR m h1 A → ∃ (h4 : MHp) (p : Nat), Rs m h1 h4 ∧ RR m h4 A ∧ hAR h4 (m + 1) k = some p ∧ RP (m + 26) h4 p (aP A k) ∧ RX h4 p (aT A k) ∧ mX16_noise h1 m (Int32.ofNat k) (Int32.ofNat u) (Int32.ofNat v) = (match aT A k cl with | none => mX16_noise_b97 h4 m (some p) (Int32.ofNat cl) F | some x => if x.1 = F then some (x.2, rtb m h4 0) else mX16_noise_b97 h4 m (some p) (Int32.ofNat cl) F) := by
      intro h1 R
      have R2 := R.th 0
      have M := R2.1.1
      have f1 := q_isCell1 R2 W hk hu hv
      have s3 := R2.2.1.2.2.2.2.2.2.2.1
      obtain ⟨b, Q⟩ := R2.rq W (W.post hk)
      obtain ⟨p, pp1, pp2, -⟩ := q_table R2 hk
      obtain ⟨h4, g4, S4⟩ := q_figure (i := Int32.ofNat u) (j := Int32.ofNat v) (d := aS A 3) Q pp2 (show 0 < 5 by omega) p5
      have g5 : mX16_figureOf (sI h1 m 0 0) m (some p) (Int32.ofNat u) (Int32.ofNat v) (aS A 3) 0 = some (F, h4) := by rw [hF]; exact g4
      have R4 := R2.sc S4
      have M4 := R4.1.1
      obtain ⟨q, qq1, qq2, qq3⟩ := q_table R4 hk
      have eq : q = p := by rw [S4.2.2.2.1, pp1] at qq1; cases qq1; rfl
      subst eq
      refine ⟨h4, q, (Rs.I 0 0 (by decide)).tr S4, R4, qq1, qq2, qq3, ?_⟩
      have f2 := q_valuesOf Q p5.2.2.1
      have f3 : hI (sI h1 m 0 0) q 2 = oi (pI2 (aP A k)) := pp2.2.2.2.1
      obtain ⟨⟨k1, k2, k3, k4, k5, k6, k7, k8, k9, k10⟩, -⟩ := qq2
      have k01 : hK (sI h1 m 0 0) q = 15 := pp2.1.1
      have bd := bad_n (k := cl) (n := 100) hcl3 (by omega)
      have bd8 := bad_n (k := k) (n := 8) (by omega) (by omega)
      have K0 : hK (sI h1 m 0 0) m = 17 := qK0 M
      have s19 : hI (sI h1 m 0 0) m 19 = aS A 3 := s3
      have x := qq3 cl hcl3
      have e8 : mX16_noise h1 m (Int32.ofNat k) (Int32.ofNat u) (Int32.ofNat v) = if hAI h4 (q + 1) cl = 0 then mX16_noise_b97 h4 m (some q) (Int32.ofNat cl) F else if lg_cmp (hAL h4 (q + 2) cl) F = 0 then some (hAL h4 (q + 3) cl, rtb m h4 0) else mX16_noise_b97 h4 m (some q) (Int32.ofNat cl) F := by
        have e9 : Int32.ofNat (vs (aB A) (pI2 (aP A k))) * Int32.ofNat u + Int32.ofNat v = Int32.ofNat cl := by rw [ofNat_mul_add', hcl2]
        rw [mX16_noise, b_pI, if_pos (qK0 R.1.1), b_rcv, if_pos K0, f1, o_bind, if_neg n10, b_gR, if_pos K0, qR6 M, b_gAR, if_pos (qK1 M), qN1 M, if_neg bd8, cl_of (by omega), pp1, b_gI, if_pos k01, f3, b_rcv, if_pos K0]
        have f2' : mX16_valuesOf (sI h1 m 0 0) m (oi (pI2 (aP A k))) = some (Int32.ofNat (vs (aB A) (pI2 (aP A k)))) := f2
        rw [f2', o_bind, b_gI, if_pos K0, s19, b_rcv, if_pos K0, g5, o_bind, b_gR, if_pos k1, k2]
        rw [e9]
        rw [b_gAI, if_pos k5, k8, if_neg bd, cl_of (by omega)]
        by_cases z1 : hAI h4 (q + 1) cl = 0
        · rw [if_pos z1, if_pos z1]
        · rw [if_neg z1, if_neg z1, b_gR, if_pos k1, k3, b_gAL, if_pos k6, k9, if_neg bd, cl_of (by omega)]
          by_cases z2 : lg_cmp (hAL h4 (q + 2) cl) F = 0
          · rw [if_pos z2, if_pos z2, b_gR, if_pos k1, k4, b_gAL, if_pos k7, k10, if_neg bd, cl_of (by omega), b_rcv, if_pos (qK0 M4), q_told M4, o_bind]
          · rw [if_neg z2, if_neg z2]
      rw [e8]
      cases e : aT A k cl with
      | none =>
        rw [e] at x
        rw [x, if_pos rfl]
      | some y =>
        rw [e] at x
        obtain ⟨x1, x2, x3⟩ := x
        rw [x1, if_neg n10, x2, x3]
        by_cases z : y.1 = F
        · rw [if_pos ((lg_cmp_eq _ _).mpr z)]; simp [z]
        · rw [if_neg (fun e => z ((lg_cmp_eq _ _).mp e))]; simp [z]
    -- not told so before
    have new : (∀ h1 : MHp, RR m h1 A → ∃ (h4 : MHp) (p : Nat), Rs m h1 h4 ∧ RR m h4 A ∧ hAR h4 (m + 1) k = some p ∧ RP (m + 26) h4 p (aP A k) ∧ mX16_noise h1 m (Int32.ofNat k) (Int32.ofNat u) (Int32.ofNat v) = mX16_noise_b97 h4 m (some p) (Int32.ofNat cl) F) → mX7_wasTold h2 (c + 120 + 7 * k) (Int32.ofNat cl) F = some 0 → XS c m h A (mX11_noise h c (Int32.ofNat k) (Int32.ofNat u) (Int32.ofNat v)) (fun h1 => mX16_noise h1 m (Int32.ofNat k) (Int32.ofNat u) (Int32.ofNat v)) := by
      intro ref2 w0
      rw [w0, o_bind, if_pos rfl] at cls
      obtain ⟨hd, hd1, hd0, hd2, hd3⟩ := C3.2.2.2.2.2.1
      have hd0' : hI h2 (c + 206) 0 = Int32.ofNat (aN A 3) := hd0
      have hb9 : hAI h2 (c + 184) 3 = aS A 9 := C3.2.2.1.2.2.2.1
      have bd3 : ¬ bad 3 4 = true := by decide
      have cl3 : (3 : Int32).toNatClampNeg = 3 := rfl
      rw [b_gR, if_pos (lK0 L3), lR0_11 L3, b_gI, if_pos (lK206 L3), hd0'] at cls
      have no : mX11_noise h c (Int32.ofNat k) (Int32.ofNat u) (Int32.ofNat v) = mX11_noise_b115 h2 c → (∀ (h4 : MHp) (p : Nat), RR m h4 A → mX16_noise_b97 h4 m (some p) (Int32.ofNat cl) F = mX16_noise_b111 h4 m) → XS c m h A (mX11_noise h c (Int32.ofNat k) (Int32.ofNat u) (Int32.ofNat v)) (fun h1 => mX16_noise h1 m (Int32.ofNat k) (Int32.ofNat u) (Int32.ofNat v)) := by
        intro n1 n2
        refine ⟨-9223372036854775808, tb (tb A 0) 5, W, ⟨sI h2 c 15 5, ?_, C3.tb (by decide), ((Oc.I0 15 0).tr S.oc).tr (Oc.I0 15 5)⟩, fun h1 R => ?_⟩
        · rw [n1, mX11_noise_b115, b_pI, if_pos (lK0 L3)]
        · obtain ⟨h4, p, S4, R4, -, -, e8⟩ := ref2 h1 R
          refine ⟨rtb m h4 5, ?_, by rw [tb_tb]; exact R4.tb (by decide), S4.om.tr Om.tb⟩
          show mX16_noise h1 m (Int32.ofNat k) (Int32.ofNat u) (Int32.ofNat v) = _
          rw [e8, n2 h4 p R4, mX16_noise_b111, b_rcv, if_pos (qK0 R4.1.1), q_lost R4.1.1, o_bind]
      have h100 := W.2.2.2.2.1
      by_cases z1 : aN A 3 = 0
      · refine no (by rw [cls, z1, if_pos (show Int32.ofNat 0 = 0 from rfl)]) (fun h4 p R4 => ?_)
        have s4 := R4.2.1.2.2.2.1
        rw [z1] at s4
        rw [mX16_noise_b97, b_gI, if_pos (qK0 R4.1.1), s4, if_pos (show Int32.ofNat 0 = 0 from rfl)]
      · have z1' : ¬ Int32.ofNat (aN A 3) = 0 := by rw [show (0 : Int32) = Int32.ofNat 0 from rfl, eq_of (by omega) (by omega)]; exact z1
        rw [if_neg z1', b_gR, if_pos (lK0 L3), lR0_5 L3, b_gAI, if_pos (lK184 L3), lN184 L3, if_neg bd3, cl3, hb9] at cls
        by_cases z2 : aS A 9 = 0
        · refine no (by rw [cls, z2, if_pos rfl]) (fun h4 p R4 => ?_)
          have s4 := R4.2.1.2.2.2.1
          have s14 := R4.2.1.2.2.2.2.2.2.2.2.2.2.2.2.2
          rw [z2] at s14
          rw [mX16_noise_b97, b_gI, if_pos (qK0 R4.1.1), s4, if_neg z1', b_gI, if_pos (qK0 R4.1.1), s14, if_pos rfl]
        · rw [if_neg z2] at cls
          obtain ⟨n, hn⟩ : ∃ n : Nat, n + 1 = aN A 3 := ⟨aN A 3 - 1, by omega⟩
          have w19 := W.2.2.2.2.2.2.2.2.2.2.2.2.2.2.2.2.2.1
          have w20 := W.2.2.2.2.2.2.2.2.2.2.2.2.2.2.2.2.2.2.1
          have b1 : 0 ≤ aS A 9 - 1 := by grind
          have b2 : aS A 9 - 1 ≤ 1000 := by grind
          obtain ⟨T, hT⟩ : ∃ T : Int64, T = (if lg_cmp 0 (F + (aA A 12 0).toInt64) < 0 then F + (aA A 12 0).toInt64 else 0) := ⟨_, rfl⟩
          have hT1 : (F, T).2 ≠ -1 := by show T ≠ -1; rw [hT]; exact max_n1 _
          have C4 := CR.nz1 W0 C3 n (aS A 9 - 1) hd hn hd1 hd3
          have c0 : ¬ Int32.ofNat (aN A 3) ≤ 0 := by rw [show (0 : Int32) = Int32.ofNat 0 from rfl, le_of (by omega) (by omega)]; omega
          have c1 : ¬ Int32.ofNat hd < 0 := by rw [nn_of (by omega)]; exact not_false
          have c2 : Int32.ofNat hd < 100 := by rw [show (100 : Int32) = Int32.ofNat 100 from rfl, lt_of (by omega) (by omega)]; exact hd1
          have md : Int32.ofNat (hd + 1) - Int32.ofNat (hd + 1) / 100 * 100 = Int32.ofNat ((hd + 1) % 100) := md_of (a := hd + 1) (b := 100) (by omega) (by omega)
          have hd4 : hAI h2 (c + 207) hd = aA A 12 0 := by
            have := hd3 0 (show 0 < aN A 3 by omega)
            rw [show (hd + 0) % 100 = hd by omega] at this
            exact this
          have s1n := sub1_of hn
          have c3 : ¬ Int32.ofNat cl < 0 := by rw [nn_of (by omega)]; exact not_false
          have c4 : ¬ (100 : Int32) ≤ Int32.ofNat cl := by rw [show (100 : Int32) = Int32.ofNat 100 from rfl, le_of (by omega) (by omega)]; omega
          have bdh := bad_n (k := hd) (n := 100) hd1 (by omega)
          have bdc := bad_n (k := cl) (n := 100) hcl3 (by omega)
          have ne5 : c + 120 + 7 * k + 6 ≠ c + 120 + 7 * k + 5 := by omega
          have take : mX4_take (sAI h2 (c + 184) (va_up (hAI h2 (c + 184)) 3 (aS A 9 - 1))) (c + 206) = some (aA A 12 0, sI (sI (sAI h2 (c + 184) (va_up (hAI h2 (c + 184)) 3 (aS A 9 - 1))) (c + 206) 2 (Int32.ofNat ((hd + 1) % 100))) (c + 206) 0 (Int32.ofNat n)) := by
            have K : hK (sAI h2 (c + 184) (va_up (hAI h2 (c + 184)) 3 (aS A 9 - 1))) (c + 206) = 5 := lK206 L3
            have K2 : hK (sI (sAI h2 (c + 184) (va_up (hAI h2 (c + 184)) 3 (aS A 9 - 1))) (c + 206) 2 (Int32.ofNat ((hd + 1) % 100))) (c + 206) = 5 := lK206 L3
            have hd2' : hI (sAI h2 (c + 184) (va_up (hAI h2 (c + 184)) 3 (aS A 9 - 1))) (c + 206) 2 = Int32.ofNat hd := hd2
            have hd0'' : hI (sAI h2 (c + 184) (va_up (hAI h2 (c + 184)) 3 (aS A 9 - 1))) (c + 206) 0 = Int32.ofNat (aN A 3) := hd0
            rw [mX4_take, b_gI, if_pos K, hd0'', if_neg c0, b_gI, if_pos K, hd2', if_neg c1, b_gI, if_pos K, hd2', if_pos c2, b_gR, if_pos K, e_R_sAI, lR206_1 L3, b_gI, if_pos K, hd2', b_gAI, if_pos (show hK (sAI h2 (c + 184) (va_up (hAI h2 (c + 184)) 3 (aS A 9 - 1))) (c + 207) = 20 from lK207 L3), e_N_sAI, lN207 L3, if_neg bdh, cl_of (by omega), e_sAI, if_neg (by omega), hd4, b_gI, if_pos K, hd2', s1_of, md, b_pI, if_pos K, b_gI, if_pos K2, e_sI, if_neg (by omega), hd0'', s1n, b_pI, if_pos K2]
          obtain ⟨X, hX⟩ : ∃ X : MHp, X = sI (sI (sAI h2 (c + 184) (va_up (hAI h2 (c + 184)) 3 (aS A 9 - 1))) (c + 206) 2 (Int32.ofNat ((hd + 1) % 100))) (c + 206) 0 (Int32.ofNat n) := ⟨_, rfl⟩
          rw [← hX] at take C4
          have OX : Oc c h2 X := by
            rw [hX]
            exact ((Oc.AI 184 _ (by omega)).tr (Oc.I 206 2 _ (by omega))).tr (Oc.I 206 0 _ (by omega))
          have C5 := CR.setT (cl := cl) (x := (F, T)) (W0.nz1 hn b1 b2) C4 hk hT1
          have P5 := (C4.plan (W0.nz1 hn b1 b2) hk).1
          obtain ⟨j1, j2, j3, j4, j5, j6, j7, j8, j9⟩ := P5
          have tell : mX7_tell X (c + 120 + 7 * k) (Int32.ofNat cl) F T = some (sAL (sAL X (c + 120 + 7 * k + 5) (va_up (hAL X (c + 120 + 7 * k + 5)) cl F)) (c + 120 + 7 * k + 6) (va_up (hAL X (c + 120 + 7 * k + 6)) cl T)) := by
            simp (maxSteps := 3000000) (disch := omega) only [mX7_tell, c3, c4, j1, j3, j5, j7, cl_of, bdc, e_K_sAL, e_R_sAL, e_N_sAL, j4, j6, j8, e_sAL, ne5, ↓o_bind, o_map, ↓b_rcv, ↓b_gI, ↓b_gL, ↓b_gR, ↓b_gN, ↓b_pI, ↓b_pL, ↓b_pR, ↓b_gAI, ↓b_gAL, ↓b_gAR, ↓b_pAI, ↓b_pAL, bad_of, bad_l, Bool.false_eq_true, ↓reduceIte, Int32.reduceLT, Int32.reduceLE, Int32.reduceToNatClampNeg, Int32.reduceOfNat, Int32.reduceAdd, Int32.reduceSub, Int32.reduceMul, Nat.reduceAdd, Nat.reduceMul, Nat.reduceEqDiff]
          have cls2 : mX11_noise h c (Int32.ofNat k) (Int32.ofNat u) (Int32.ofNat v) = some (T, sAL (sAL X (c + 120 + 7 * k + 5) (va_up (hAL X (c + 120 + 7 * k + 5)) cl F)) (c + 120 + 7 * k + 6) (va_up (hAL X (c + 120 + 7 * k + 6)) cl T)) := by
            rw [cls, b_gR, if_pos (lK0 L3), lR0_5 L3, b_gAI, if_pos (lK184 L3), lN184 L3, if_neg bd3, cl3, hb9, b_pAI, if_pos (lK184 L3), lN184 L3, if_neg bd3, cl3, b_gR, if_pos (show hK (sAI h2 (c + 184) (va_up (hAI h2 (c + 184)) 3 (aS A 9 - 1))) c = 12 from lK0 L3), e_R_sAI, lR0_11 L3, b_rcv, if_pos (show hK (sAI h2 (c + 184) (va_up (hAI h2 (c + 184)) 3 (aS A 9 - 1))) (c + 206) = 5 from lK206 L3), take, o_bind, j_max, o_bind, ← hT, b_rcv, if_pos j1, tell, o_bind]
          have O5 : Oc c X (sAL (sAL X (c + 120 + 7 * k + 5) (va_up (hAL X (c + 120 + 7 * k + 5)) cl F)) (c + 120 + 7 * k + 6) (va_up (hAL X (c + 120 + 7 * k + 6)) cl T)) := ⟨rfl, fun lo hi d => (Ag.AL _ _ (by omega)).tr (Ag.AL _ _ (by omega))⟩
          refine ⟨T, tlA (nz1 (tb A 0) n (aS A 9 - 1)) k cl (F, T), (W0.nz1 hn b1 b2), ⟨_, cls2, C5, (((Oc.I0 15 0).tr S.oc).tr OX).tr O5⟩, fun h1 R => ?_⟩
          obtain ⟨h4, p, S4, R4, a3, a4, e8⟩ := ref2 h1 R
          have M4 := R4.1.1
          have s4 := R4.2.1.2.2.2.1
          have s14 := R4.2.1.2.2.2.2.2.2.2.2.2.2.2.2.2
          have hl0 : hAI h4 (m + 24) 0 = aA A 12 0 := R4.2.2.2.2.1 0 (by omega)
          obtain ⟨I, -, -, -, ⟨p5', p6'⟩, -⟩ := id a4
          obtain ⟨k1, k2, k3, k4, k5, k6, k7, k8, k9, k10⟩ := id I
          have R5 := (R4.setT (cl := cl) (x := (F, T)) hk a3)
          obtain ⟨h5, hh5⟩ : ∃ h5 : MHp, h5 = sAL (sAL (sAI h4 (p + 1) (va_up (hAI h4 (p + 1)) cl 1)) (p + 2) (va_up (hAL h4 (p + 2)) cl F)) (p + 3) (va_up (hAL h4 (p + 3)) cl T) := ⟨_, rfl⟩
          have R5' : RR m h5 (tlA A k cl (F, T)) := by rw [hh5]; exact R5
          have hv5 : hAL h5 (p + 3) cl = T := by rw [hh5, e_sAL, if_pos rfl, e_up, if_pos rfl]
          have M5 := R5'.1.1
          have I5 : RIP h5 p := by rw [hh5]; exact I
          have i49 : hI h5 m 49 = Int32.ofNat (aN A 3) := by rw [hh5]; exact s4
          have i40 : hI h5 m 40 = aS A 9 := by rw [hh5]; exact s14
          have sh := r_shift (n := n) (p := p) (cl := cl) (v := T) (A := A) n FUEL 0 (sI (sI h5 m 49 (Int32.ofNat n)) m 40 (aS A 9 - 1)) (hAI h5 (m + 24)) M5 (by rw [e_sI, if_neg (by omega), e_Iself]) (by omega) hcl3 I5 hv5 (by omega) (by unfold FUEL; omega)
          have slf : sAI (sI (sI h5 m 49 (Int32.ofNat n)) m 40 (aS A 9 - 1)) (m + 24) (hAI h5 (m + 24)) = sI (sI h5 m 49 (Int32.ofNat n)) m 40 (aS A 9 - 1) := e_AIself _ _
          rw [slf] at sh
          have R6 := (RR.nz1 R5' n (aS A 9 - 1) (fun k => if 0 ≤ k ∧ k < n then hAI h5 (m + 24) (k + 1) else hAI h5 (m + 24) k) hn (fun k hk => if_pos ⟨Nat.zero_le _, hk⟩)).tb (t := 0) (by decide)
          have eA : tb (nz1 (tlA A k cl (F, T)) n (aS A 9 - 1)) 0 = tlA (nz1 (tb A 0) n (aS A 9 - 1)) k cl (F, T) := by
            rw [nz1_tb]; rfl
          rw [eA] at R6
          have O5 : Om m h4 h5 := by
            rw [hh5]
            exact ((Om.AI _ _ (by omega)).tr (Om.AL _ _ (by omega))).tr (Om.AL _ _ (by omega))
          refine ⟨_, ?_, R6, (((S4.om.tr O5).tr ((Om.I 49 _).tr (Om.I 40 _))).tr (Om.AI _ _ (by omega))).tr Om.tb⟩
          show mX16_noise h1 m (Int32.ofNat k) (Int32.ofNat u) (Int32.ofNat v) = _
          have bd0 : ¬ bad 0 100 = true := by decide
          have cl0 : (0 : Int32).toNatClampNeg = 0 := rfl
          have n32 : p + 3 ≠ p + 2 := by omega
          have n24 : m + 24 ≠ p + 1 := by omega
          rw [e8, ← sh, mX16_noise_b97, b_gI, if_pos (qK0 M4), s4, if_neg z1', b_gI, if_pos (qK0 M4), s14, if_neg z2]
          have fold : sAL (sAL (sAI h4 (p + 1) (va_up (hAI h4 (p + 1)) cl 1)) (p + 2) (va_up (hAL h4 (p + 2)) cl F)) (p + 3) (va_up (hAL h4 (p + 3)) cl T) = h5 := hh5.symm
          simp (maxSteps := 3000000) (disch := omega) only [k1, k2, k5, k8, bdc, cl_of, e_K_sAI, e_R_sAI, e_N_sAI, k3, k6, k9, e_K_sAL, e_R_sAL, e_N_sAL, e_AL_sAI, k4, qK0 M4, qR50 M4, qK24 M4, qN24 M4, bd0, cl0, e_AI_sAL, e_sAI, n24, hl0, j_max, ← hT, k7, k10, e_sAL, n32, fold, ↓o_bind, o_map, ↓b_rcv, ↓b_gI, ↓b_gL, ↓b_gR, ↓b_gN, ↓b_pI, ↓b_pL, ↓b_pR, ↓b_gAI, ↓b_gAL, ↓b_gAR, ↓b_pAI, ↓b_pAL, bad_of, bad_l, Bool.false_eq_true, ↓reduceIte, Int32.reduceLT, Int32.reduceLE, Int32.reduceToNatClampNeg, Int32.reduceOfNat, Int32.reduceAdd, Int32.reduceSub, Int32.reduceMul, Nat.reduceAdd, Nat.reduceMul, Nat.reduceEqDiff]
          simp (maxSteps := 3000000) (disch := omega) only [qK0 M5, i49, s1n, e_K_sI, e_sI, i40, ↓o_bind, o_map, ↓b_rcv, ↓b_gI, ↓b_gL, ↓b_gR, ↓b_gN, ↓b_pI, ↓b_pL, ↓b_pR, ↓b_gAI, ↓b_gAL, ↓b_gAR, ↓b_pAI, ↓b_pAL, bad_of, bad_l, Bool.false_eq_true, ↓reduceIte, Int32.reduceLT, Int32.reduceLE, Int32.reduceToNatClampNeg, Int32.reduceOfNat, Int32.reduceAdd, Int32.reduceSub, Int32.reduceMul, Nat.reduceAdd, Nat.reduceMul, Nat.reduceEqDiff]
          rfl
    cases e : aT A k cl with
    | none =>
      rw [e] at e7'
      refine new (fun h1 R => ?_) e7'
      obtain ⟨h4, p, a1, a2, a3, a4, -, a6⟩ := ref h1 R
      rw [e] at a6
      exact ⟨h4, p, a1, a2, a3, a4, a6⟩
    | some x =>
      rw [e] at e7'
      by_cases z : x.1 = F
      · have e70 : mX7_wasTold h2 (c + 120 + 7 * k) (Int32.ofNat cl) F = some 1 := by rw [e7']; simp [z]
        rw [e70, o_bind, if_neg n10, b_rcv, if_pos i3] at cls
        have x3 := p34 cl hcl3
        have c1 : ¬ Int32.ofNat cl < 0 := by rw [nn_of (by omega)]; exact not_false
        have c2 : ¬ (100 : Int32) ≤ Int32.ofNat cl := by rw [show (100 : Int32) = Int32.ofNat 100 from rfl, le_of (by omega) (by omega)]; omega
        have bd := bad_n (k := cl) (n := 100) hcl3 (by omega)
        have e9 : aT (tb A 0) k cl = some x := e
        rw [e9] at x3
        have e10 : mX7_toldAtLast h2 (c + 120 + 7 * k) (Int32.ofNat cl) = some x.2 := by
          rw [mX7_toldAtLast, if_neg c1, if_neg c2, b_gR, if_pos i3, p31.2.2.2.1, b_gAL, if_pos p31.2.2.2.2.2.1, p31.2.2.2.2.2.2.2.1, if_neg bd, cl_of (by omega), x3.2.1]
        rw [e10, o_bind] at cls
        refine ⟨x.2, tb A 0, W, ⟨h2, cls, C3, (Oc.I0 15 0).tr S.oc⟩, fun h1 R => ?_⟩
        obtain ⟨h4, p, a1, a2, a3, a4, -, a6⟩ := ref h1 R
        rw [e] at a6
        refine ⟨rtb m h4 0, ?_, a2.tb (by decide), a1.om.tr Om.tb⟩
        show mX16_noise h1 m (Int32.ofNat k) (Int32.ofNat u) (Int32.ofNat v) = _
        rw [a6]; simp [z]
      · refine new (fun h1 R => ?_) (by rw [e7']; simp [z])
        obtain ⟨h4, p, a1, a2, a3, a4, -, a6⟩ := ref h1 R
        rw [e] at a6
        exact ⟨h4, p, a1, a2, a3, a4, by rw [a6]; simp [z]⟩
  · have e1 := p_hasCell0 C W hc
    refine XS.no (v := -9223372036854775808) 1 (by decide) C W (fun _ _ => Or.inr trivial) ?_ (fun h1 R => ⟨sI h1 m 0 0, Rs.I 0 0 (by decide), ?_⟩)
    · rw [mX11_noise, b_rcv, if_pos (lK0 L), e1, o_bind, if_pos rfl, noi_b L _ _ _ 1 n10]
    · have R2 := R.th 0
      have M := R2.1.1
      have f1 := q_isCell0 R2 W hc
      have e5 := q_lost M 1
      show mX16_noise h1 m t i j = _
      rw [mX16_noise, b_pI, if_pos (qK0 R.1.1), b_rcv, if_pos (qK0 M), f1, o_bind, if_pos rfl, b_rcv, if_pos (qK0 M), e5, o_bind]

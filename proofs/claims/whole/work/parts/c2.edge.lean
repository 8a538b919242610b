/-! the class's ways, all of them -/
theorem Yc.f {c ls cs : Nat} {h h' : MHp} {y : Nat → Int} (Y : Yc c ls cs h y) (S : Gf c h h') : Yc c ls cs h' y := by
  intro cl hcl
  rw [S.2.2 _ (by omega) (by omega)]
  exact Y cl hcl
theorem c_fcl {c ls cs q hd u e st : Nat} {out : Int64} {md : Bool} {y : Nat → Int} (hq : q < ls * cs) : ∀ (j v n : Nat) (fu : Nat) (h : MHp) (fr : Nat → Option Nat) (qu ps : Nat → Nat), Gc c ls cs h → Yc c ls cs h y → FI (c + 204) (c + 205) (ls + cs) st (okF ls cs q (bL out) y md) h fr qu ps n hd u v → v + j = e → (u < ls ∧ ls ≤ v ∧ e = ls + cs ∨ ls ≤ u ∧ e = ls) → j < fu → ∃ (h1 : MHp) (fr1 : Nat → Option Nat) (qu1 ps1 : Nat → Nat) (n1 : Nat), (∀ (k54 : MHp → Nat → Int32 → Int64 → Int32 → Int32 → Int32 → Int32 → Option (Int32 × MHp)) (gl : Int32), mX3_findCircle_l133 k54 fu h (c + 200) gl out (mi md) (Int32.ofNat q) (Int32.ofNat n) (Int32.ofNat hd) (Int32.ofNat u) (Int32.ofNat e) (Int32.ofNat v) = k54 h1 (c + 200) gl out (mi md) (Int32.ofNat q) (Int32.ofNat n1) (Int32.ofNat (hd + 1))) ∧ Gf c h h1 ∧ FI (c + 204) (c + 205) (ls + cs) st (okF ls cs q (bL out) y md) h1 fr1 qu1 ps1 n1 hd u e := by
  intro j
  induction j with
  | zero =>
    intro v n fu h fr qu ps G Y F hv s hf
    obtain ⟨fu, rfl⟩ : ∃ g : Nat, fu = g + 1 := ⟨fu - 1, by omega⟩
    obtain ⟨L, g1, g2, g3, g4, g5⟩ := id G
    have ve : v = e := by omega
    subst ve
    refine ⟨h, fr, qu, ps, n, fun k54 gl => ?_, Gf.rf, F⟩
    rw [mX3_findCircle_l133, if_pos (by rw [le_of (by omega) (by omega)]; omega), mX3_findCircle_b238, s1_of]
  | succ j ih =>
    intro v n fu h fr qu ps G Y F hv s hf
    obtain ⟨fu, rfl⟩ : ∃ g : Nat, fu = g + 1 := ⟨fu - 1, by omega⟩
    obtain ⟨h1, fr1, qu1, ps1, n1, e1, S1, F1⟩ := c_fc G Y hq F (show v < e by omega) s
    obtain ⟨h2, fr2, qu2, ps2, n2, e2, S2, F2⟩ := ih (v + 1) n1 fu h1 fr1 qu1 ps1 (G.sc S1.1 S1.2.1) (Y.f S1) F1 (by omega) (by omega) (by omega)
    exact ⟨h2, fr2, qu2, ps2, n2, fun k54 gl => by rw [e1, e2], S1.tr S2, F2⟩
theorem okF_side {ls cs q u v : Nat} {out : Nat → Bool} {y : Nat → Int} {md : Bool} (h : okF ls cs q out y md u v = true) : u < ls ∧ ls ≤ v ∨ ls ≤ u ∧ v < ls := by
  unfold okF at h
  rw [decide_eq_true_eq] at h
  exact h.1
theorem c_fo {c ls cs q gl st : Nat} {out : Int64} {md : Bool} {y : Nat → Int} (hq : q < ls * cs) (hgl : gl < ls + cs) : ∀ (j hd n fu : Nat) (h : MHp) (fr : Nat → Option Nat) (qu ps : Nat → Nat), Gc c ls cs h → Yc c ls cs h y → FS (c + 204) (c + 205) (ls + cs) st (okF ls cs q (bL out) y md) h fr qu ps n hd → hd ≤ n → hd + j = ls + cs → j < fu → ∃ (h1 : MHp) (fr1 : Nat → Option Nat) (qu1 ps1 : Nat → Nat) (n1 : Nat), mX3_findCircle_l54 fu h (c + 200) (Int32.ofNat gl) out (mi md) (Int32.ofNat q) (Int32.ofNat n) (Int32.ofNat hd) = some (if fr1 gl = none then 0 else 1, h1) ∧ Gf c h h1 ∧ BI (ls + cs) (okF ls cs q (bL out) y md) st fr1 qu1 ps1 n1 ∧ (∀ x : Nat, x < ls + cs → hAI h1 (c + 204) x = oi (fr1 x)) ∧ (fr1 gl = none → ∀ u v : Nat, u < ls + cs → v < ls + cs → fr1 u ≠ none → okF ls cs q (bL out) y md u v = true → fr1 v ≠ none) := by
  intro j
  induction j with
  | zero =>
    intro hd n fu h fr qu ps G Y F hn hj hf
    obtain ⟨fu, rfl⟩ : ∃ g : Nat, fu = g + 1 := ⟨fu - 1, by omega⟩
    obtain ⟨L, g1, g2, g3, g4, g5⟩ := id G
    have K := lK200 L
    have nN := F.1.n_le
    have e : hd = n := by omega
    subst e
    have bg := bad_n (k := gl) (n := 20) (by omega) (by omega)
    refine ⟨h, fr, qu, ps, hd, ?_, Gf.rf, F.1, F.2.1, fun _ => F.closed⟩
    rw [mX3_findCircle_l54, if_pos (by rw [le_of (by omega) (by omega)]; omega), mX3_findCircle_b244, b_gR, if_pos K, lR200_4 L, b_gAI, if_pos (lK204 L), lN204 L, if_neg bg, cl_of (by omega), F.2.1 gl hgl]
    cases hfr : fr gl with
    | none => rfl
    | some w =>
      have hw := F.oi hgl hfr
      rw [if_neg (show ¬ oi (some w) = -1 from nm_of (by omega)), if_neg (Option.some_ne_none _)]
  | succ j ih =>
    intro hd n fu h fr qu ps G Y F hn hj hf
    obtain ⟨fu, rfl⟩ : ∃ g : Nat, fu = g + 1 := ⟨fu - 1, by omega⟩
    obtain ⟨L, g1, g2, g3, g4, g5⟩ := id G
    have K := lK200 L
    have nN := F.1.n_le
    have bg := bad_n (k := gl) (n := 20) (by omega) (by omega)
    have clg : (Int32.ofNat gl).toNatClampNeg = gl := cl_of (by omega)
    have b244 : mX3_findCircle_b244 h (c + 200) (Int32.ofNat gl) = some (if fr gl = none then 0 else 1, h) := by
      rw [mX3_findCircle_b244, b_gR, if_pos K, lR200_4 L, b_gAI, if_pos (lK204 L), lN204 L, if_neg bg, clg, F.2.1 gl hgl]
      cases hfr : fr gl with
      | none => rfl
      | some w =>
        have hw := F.oi hgl hfr
        rw [if_neg (show ¬ oi (some w) = -1 from nm_of (by omega)), if_neg (Option.some_ne_none _)]
    by_cases e : hd = n
    · subst e
      refine ⟨h, fr, qu, ps, hd, ?_, Gf.rf, F.1, F.2.1, fun _ => F.closed⟩
      rw [mX3_findCircle_l54, if_pos (by rw [le_of (by omega) (by omega)]; omega), b244]
    · have bh := bad_n (k := hd) (n := 20) (by omega) (by omega)
      have clh : (Int32.ofNat hd).toNatClampNeg = hd := cl_of (by omega)
      cases hfr : fr gl with
      | some w =>
        have hw := F.oi hgl hfr
        refine ⟨h, fr, qu, ps, n, ?_, Gf.rf, F.1, F.2.1, fun hh => by rw [hfr] at hh; cases hh⟩
        rw [mX3_findCircle_l54, if_neg (by rw [le_of (by omega) (by omega)]; omega), if_neg (by rw [show (20 : Int32) = Int32.ofNat 20 from rfl, le_of (by omega) (by omega)]; omega), b_gR, if_pos K, lR200_4 L, b_gAI, if_pos (lK204 L), lN204 L, if_neg bg, clg, F.2.1 gl hgl, hfr, if_neg (show ¬ oi (some w) = -1 from nm_of (by omega)), b244, hfr]
      | none =>
        have hu := (F.1.2.2.2.1 hd (by omega)).1
        obtain ⟨u, hu'⟩ : ∃ u : Nat, u = qu hd := ⟨_, rfl⟩
        rw [← hu'] at hu
        by_cases g : u < ls
        · have F0 : FI (c + 204) (c + 205) (ls + cs) st (okF ls cs q (bL out) y md) h fr qu ps n hd u ls := ⟨F, by omega, hu'.symm, fun v hv _ o => by have := okF_side o; omega⟩
          obtain ⟨h1, fr1, qu1, ps1, n1, e1, S1, F1⟩ := c_fcl hq cs ls n FUEL h fr qu ps G Y F0 rfl (Or.inl ⟨g, Nat.le_refl _, rfl⟩) (by unfold FUEL; omega)
          have F2 := F1.done (fun v hv o => hv)
          obtain ⟨h2, fr2, qu2, ps2, n2, e2, S2, r1, r2, r3⟩ := ih (hd + 1) n1 fu h1 fr1 qu1 ps1 (G.sc S1.1 S1.2.1) (Y.f S1) F2 (by have := F1.2.1; omega) (by omega) (by omega)
          refine ⟨h2, fr2, qu2, ps2, n2, ?_, S1.tr S2, r1, r2, r3⟩
          rw [mX3_findCircle_l54, if_neg (by rw [le_of (by omega) (by omega)]; omega), if_neg (by rw [show (20 : Int32) = Int32.ofNat 20 from rfl, le_of (by omega) (by omega)]; omega), b_gR, if_pos K, lR200_4 L, b_gAI, if_pos (lK204 L), lN204 L, if_neg bg, clg, F.2.1 gl hgl, hfr, if_pos (show oi none = -1 from rfl), b_gR, if_pos K, lR200_5 L, b_gAI, if_pos (lK205 L), lN205 L, if_neg bh, clh, F.2.2.1 hd (by omega), ← hu', b_gI, if_pos K, g1, if_neg (by rw [le_of (by omega) (by omega)]; omega), b_gI, if_pos K, g1, b_gI, if_pos K, g2, mX3_findCircle_b112, b_gI, if_pos K, g1, if_neg (by rw [le_of (by omega) (by omega)]; omega), b_gI, if_pos K, g1, mX3_findCircle_b131, ← Int32.ofNat_add, e1, e2]
        · have F0 : FI (c + 204) (c + 205) (ls + cs) st (okF ls cs q (bL out) y md) h fr qu ps n hd u 0 := ⟨F, by omega, hu'.symm, fun v hv _ o => by omega⟩
          obtain ⟨h1, fr1, qu1, ps1, n1, e1, S1, F1⟩ := c_fcl hq ls 0 n FUEL h fr qu ps G Y F0 (by omega) (Or.inr ⟨by omega, rfl⟩) (by unfold FUEL; omega)
          have F2 := F1.done (fun v hv o => by have := okF_side o; omega)
          obtain ⟨h2, fr2, qu2, ps2, n2, e2, S2, r1, r2, r3⟩ := ih (hd + 1) n1 fu h1 fr1 qu1 ps1 (G.sc S1.1 S1.2.1) (Y.f S1) F2 (by have := F1.2.1; omega) (by omega) (by omega)
          refine ⟨h2, fr2, qu2, ps2, n2, ?_, S1.tr S2, r1, r2, r3⟩
          have e1' := fun k54 gl => e1 k54 gl
          rw [mX3_findCircle_l54, if_neg (by rw [le_of (by omega) (by omega)]; omega), if_neg (by rw [show (20 : Int32) = Int32.ofNat 20 from rfl, le_of (by omega) (by omega)]; omega), b_gR, if_pos K, lR200_4 L, b_gAI, if_pos (lK204 L), lN204 L, if_neg bg, clg, F.2.1 gl hgl, hfr, if_pos (show oi none = -1 from rfl), b_gR, if_pos K, lR200_5 L, b_gAI, if_pos (lK205 L), lN205 L, if_neg bh, clh, F.2.2.1 hd (by omega), ← hu', b_gI, if_pos K, g1, if_pos (by rw [le_of (by omega) (by omega)]; omega), b_gI, if_pos K, g1, mX3_findCircle_b112, b_gI, if_pos K, g1, if_pos (by rw [le_of (by omega) (by omega)]; omega), mX3_findCircle_b131, show (0 : Int32) = Int32.ofNat 0 from rfl, e1, e2]
          rfl
theorem p_findCircle {c ls cs i0 j0 : Nat} {out : Int64} {md : Bool} {y : Nat → Int} {h : MHp} (G : Gc c ls cs h) (Y : Yc c ls cs h y) (hi : i0 < ls) (hj : j0 < cs) : ∃ (h1 : MHp) (fr : Nat → Option Nat) (ps : Nat → Nat), mX3_findCircle h (c + 200) (Int32.ofNat i0) (Int32.ofNat (ls + j0)) out (mi md) = some (if fr (ls + j0) = none then 0 else 1, h1) ∧ Gf c h h1 ∧ (∀ x : Nat, x < ls + cs → hAI h1 (c + 204) x = oi (fr x)) ∧ Tr ls cs (i0 * cs + j0) (bL out) y md i0 fr ps ∧ (∀ x : Nat, x < ls + cs → fr x ≠ none → ps x < 20) ∧ (fr (ls + j0) = none → ∀ u v : Nat, u < ls + cs → v < ls + cs → fr u ≠ none → okF ls cs (i0 * cs + j0) (bL out) y md u v = true → fr v ≠ none) := by
  obtain ⟨L, g1, g2, g3, g4, g5⟩ := id G
  have hq := cell_lt hi hj
  obtain ⟨X, hX⟩ : ∃ X : MHp, X = sAI h (c + 204) (fun j => if j < 20 then -1 else hAI h (c + 204) j) := ⟨_, rfl⟩
  have f1 := j_fill (v := -1) (lK204 L) (lN204 L) (by omega)
  rw [← hX] at f1
  obtain ⟨Z, hZ⟩ : ∃ Z : MHp, Z = sAI X (c + 204) (va_up (hAI X (c + 204)) i0 (Int32.ofNat i0)) := ⟨_, rfl⟩
  obtain ⟨V, hV⟩ : ∃ V : MHp, V = sAI Z (c + 205) (va_up (hAI Z (c + 205)) 0 (Int32.ofNat i0)) := ⟨_, rfl⟩
  have SX : Gf c h X := ⟨by rw [hX]; exact Sc.AI 204 _ (by decide), by rw [hX]; rfl, fun a x _ => by rw [hX, e_sAI, if_neg x]⟩
  have SZ : Gf c X Z := ⟨by rw [hZ]; exact Sc.AI 204 _ (by decide), by rw [hZ]; rfl, fun a x _ => by rw [hZ, e_sAI, if_neg x]⟩
  have SV : Gf c Z V := ⟨by rw [hV]; exact Sc.AI 205 _ (by decide), by rw [hV]; rfl, fun a _ x => by rw [hV, e_sAI, if_neg x]⟩
  have GX := G.sc SX.1 SX.2.1
  have GZ := GX.sc SZ.1 SZ.2.1
  have GV := GZ.sc SV.1 SV.2.1
  have YV := ((Y.f SX).f SZ).f SV
  have LX := GX.1
  have LZ := GZ.1
  have K := lK200 LX
  have F0 : FS (c + 204) (c + 205) (ls + cs) i0 (okF ls cs (i0 * cs + j0) (bL out) y md) V (va_up (fun _ => none) i0 (some i0)) (va_up (fun _ => 0) 0 i0) (fun _ => 0) 1 0 := by
    refine ⟨BI.first (by omega), fun x hx => ?_, fun k hk => ?_, fun k hk => by omega⟩
    · rw [hV, e_sAI, if_neg (by omega), hZ, e_sAI, if_pos rfl, e_up, e_up]
      by_cases e : x = i0
      · rw [if_pos e, if_pos e]; rfl
      · rw [if_neg e, if_neg e, hX, e_sAI, if_pos rfl, if_pos (by omega)]; rfl
    · have : k = 0 := by omega
      subst this
      rw [hV, e_sAI, if_pos rfl, e_up, if_pos rfl, e_up, if_pos rfl]
  obtain ⟨h1, fr, qu, ps, n, e1, S1, B, r2, r3⟩ := c_fo hq (show ls + j0 < ls + cs by omega) (ls + cs) 0 1 FUEL V _ _ _ GV YV F0 (by omega) (by omega) (by unfold FUEL; omega)
  have e1' : mX3_findCircle_l54 FUEL V (c + 200) (Int32.ofNat (ls + j0)) out (mi md) (Int32.ofNat (i0 * cs + j0)) 1 0 = _ := e1
  have bi := bad_n (k := i0) (n := 20) (by omega) (by omega)
  have cli : (Int32.ofNat i0).toNatClampNeg = i0 := cl_of (by omega)
  refine ⟨h1, fr, ps, ?_, ((SX.tr SZ).tr SV).tr S1, r2, ⟨B.1, B.2.1, B.2.2.2.2.2⟩, fun x hx hn => ?_, r3⟩
  · have K0 := lK200 L
    have ecb : cb ls cs i0 (ls + j0) = i0 * cs + j0 := by
      unfold cb
      rw [if_pos hi, Nat.add_sub_cancel_left]
    have ecw := p_cbw G (show i0 < ls ∧ ls ≤ ls + j0 ∧ ls + j0 < ls + cs ∨ ls ≤ i0 ∧ i0 < ls + cs ∧ ls + j0 < ls by omega)
    rw [ecb] at ecw
    rw [mX3_findCircle, b_rcv, if_pos K0, p_isNode G (show i0 < ls + cs by omega), o_bind, if_neg n10, b_rcv, if_pos K0, p_isNode G (show ls + j0 < ls + cs by omega), o_bind, if_neg n10, b_rcv, if_pos K0, ecw, o_bind, b_gR, if_pos K0, lR200_4 L, f1, o_bind, b_gR, if_pos K, lR200_4 LX, b_pAI, if_pos (lK204 LX), lN204 LX, if_neg bi, cli, ← hZ, b_gR, if_pos (lK200 LZ), lR200_5 LZ, b_pAI, if_pos (lK205 LZ), lN205 LZ, if_neg (show ¬ bad 0 20 = true by decide), show (0 : Int32).toNatClampNeg = 0 from rfl, ← hV, e1']
  · have := (B.2.2.2.2.1 x hx hn).1
    have := B.n_le
    omega
/-! rows moved round a circle -/
theorem oI_n (n : Nat) : Int32.ofInt (n : Int) = Int32.ofNat n := Int32.ofInt_eq_ofNat
theorem oI_lt {x y : Int} (h0 : 0 ≤ x) (h1 : x ≤ 60) (h2 : 0 ≤ y) (h3 : y ≤ 60) : (Int32.ofInt x < Int32.ofInt y) = (x < y) := by
  obtain ⟨n, rfl⟩ : ∃ n : Nat, x = (n : Int) := ⟨x.toNat, by omega⟩
  obtain ⟨k, rfl⟩ : ∃ k : Nat, y = (k : Int) := ⟨y.toNat, by omega⟩
  rw [oI_n, oI_n, lt_of (by omega) (by omega)]
  exact propext ⟨fun h => by omega, fun h => by omega⟩
theorem c_am {c ls cs q st : Nat} {out : Int64} {md : Bool} {y : Nat → Int} {h : MHp} {fr : Nat → Option Nat} {ps : Nat → Nat} (G : Gc c ls cs h) (Y : Yc c ls cs h y) (T : Tr ls cs q (bL out) y md st fr ps) (hfr : ∀ x : Nat, x < ls + cs → hAI h (c + 204) x = oi (fr x)) : ∀ (n v k fu : Nat) (a : Int), v < ls + cs → fr v ≠ none → ps v ≤ n → k + ps v < 20 → n < fu → 1 ≤ a → a ≤ 60 → ∃ a' : Int, 1 ≤ a' ∧ a' ≤ a ∧ Enf ls cs md a' st fr y n v ∧ ∀ gl : Int32, mX3_moveRound_l31 fu h (c + 200) (Int32.ofNat st) gl (mi md) (Int32.ofNat q) (Int32.ofInt a) (Int32.ofNat k) (Int32.ofNat v) = mX3_moveRound_b101 h (c + 200) (Int32.ofNat st) gl (mi md) (Int32.ofNat q) (Int32.ofInt a') := by
  intro n
  obtain ⟨L, g1, g2, g3, g4, g5⟩ := id G
  have K := lK200 L
  have hst := T.1
  have stop : ∀ (n k fu : Nat) (a : Int), k < 20 → n < fu → 1 ≤ a → a ≤ 60 → ∃ a' : Int, 1 ≤ a' ∧ a' ≤ a ∧ Enf ls cs md a' st fr y n st ∧ ∀ gl : Int32, mX3_moveRound_l31 fu h (c + 200) (Int32.ofNat st) gl (mi md) (Int32.ofNat q) (Int32.ofInt a) (Int32.ofNat k) (Int32.ofNat st) = mX3_moveRound_b101 h (c + 200) (Int32.ofNat st) gl (mi md) (Int32.ofNat q) (Int32.ofInt a') := by
    intro n k fu a hk hf h1 h2
    obtain ⟨fu, rfl⟩ : ∃ g : Nat, fu = g + 1 := ⟨fu - 1, by omega⟩
    refine ⟨a, h1, Int.le_refl _, ?_, fun gl => ?_⟩
    · cases n with
      | zero => exact trivial
      | succ n => exact Or.inl rfl
    · rw [mX3_moveRound_l31, if_neg (by rw [show (20 : Int32) = Int32.ofNat 20 from rfl, le_of (by omega) (by omega)]; omega), if_pos rfl]
  induction n with
  | zero =>
    intro v k fu a hv hn hp hk hf h1 h2
    by_cases e : v = st
    · subst e
      exact stop 0 k fu a (by omega) hf h1 h2
    · cases hu : fr v with
      | none => exact absurd hu hn
      | some u =>
        have := (T.2.2 v hv e u hu).2.2.1
        omega
  | succ n ih =>
    intro v k fu a hv hn hp hk hf h1 h2
    by_cases e : v = st
    · subst e
      exact stop (n + 1) k fu a (by omega) hf h1 h2
    · obtain ⟨fu, rfl⟩ : ∃ g : Nat, fu = g + 1 := ⟨fu - 1, by omega⟩
      cases hu : fr v with
      | none => exact absurd hu hn
      | some u =>
        obtain ⟨t1, t2, t3, t4⟩ := T.2.2 v hv e u hu
        have sd := okF_side t4
        have s2 : u < ls ∧ ls ≤ v ∧ v < ls + cs ∨ ls ≤ u ∧ u < ls + cs ∧ v < ls := by omega
        have hcb := cb_lt s2
        obtain ⟨y1, y2, y3⟩ := Y (cb ls cs u v) hcb
        have bv := bad_n (k := v) (n := 20) (by omega) (by omega)
        have clv : (Int32.ofNat v).toNatClampNeg = v := cl_of (by omega)
        have base : ∀ gl : Int32, mX3_moveRound_l31 (fu + 1) h (c + 200) (Int32.ofNat st) gl (mi md) (Int32.ofNat q) (Int32.ofInt a) (Int32.ofNat k) (Int32.ofNat v) = (if (if decide (u < ls) = md then (1 : Int32) else 0) = 0 then mX3_moveRound_l31 fu h (c + 200) (Int32.ofNat st) gl (mi md) (Int32.ofNat q) (Int32.ofInt a) (Int32.ofNat (k + 1)) (Int32.ofNat u) else mX3_moveRound_l31 fu h (c + 200) (Int32.ofNat st) gl (mi md) (Int32.ofNat q) (if Int32.ofInt (y (cb ls cs u v)) < Int32.ofInt a then Int32.ofInt (y (cb ls cs u v)) else Int32.ofInt a) (Int32.ofNat (k + 1)) (Int32.ofNat u)) := by
          intro gl
          have mn : ∀ x z : Int32, mJ9_min_7cf53 h x z = some (if z < x then z else x) := fun x z => by
            unfold mJ9_min_7cf53
            by_cases g : z < x
            · rw [if_pos g, if_pos g]
            · rw [if_neg g, if_neg g]
          rw [mX3_moveRound_l31, if_neg (by rw [show (20 : Int32) = Int32.ofNat 20 from rfl, le_of (by omega) (by omega)]; omega), if_neg (by rw [eq_of (by omega) (by omega)]; exact e), b_rcv, if_pos K, p_isNode G hv, o_bind, if_neg n10, b_gR, if_pos K, lR200_4 L, b_gAI, if_pos (lK204 L), lN204 L, if_neg bv, clv, hfr v hv, hu, show oi (some u) = Int32.ofNat u from rfl, b_rcv, if_pos K, p_loses G t1, o_bind]
          by_cases a4 : decide (u < ls) = md
          · rw [if_pos a4, if_neg n10, if_neg n10, b_rcv, if_pos K, p_cbw G s2, o_bind, b_rcv, if_pos K, p_countAt G (by omega), o_bind, y1, mn, o_bind, mX3_moveRound_b91, s1_of]
          · rw [if_neg a4, if_pos rfl, if_pos rfl, mX3_moveRound_b91, s1_of]
        by_cases a4 : decide (u < ls) = md
        · have t5 := t4
          unfold okF at t5
          rw [decide_eq_true_eq] at t5
          have y4 := t5.2.2.2 a4
          have el := oI_lt y2 y3 (show 0 ≤ a by omega) h2
          by_cases g : y (cb ls cs u v) < a
          · obtain ⟨a', q1, q2, q3, q4⟩ := ih u (k + 1) fu (y (cb ls cs u v)) t1 t2 (by omega) (by omega) (by omega) (by omega) y3
            refine ⟨a', q1, by omega, Or.inr (fun u' hu' => ?_), fun gl => ?_⟩
            · rw [hu] at hu'
              have := Option.some.inj hu'
              subst this
              exact ⟨fun _ => q2, q3⟩
            · rw [base, if_pos a4, if_neg n10, if_pos (by rw [el]; exact g), q4]
          · obtain ⟨a', q1, q2, q3, q4⟩ := ih u (k + 1) fu a t1 t2 (by omega) (by omega) (by omega) h1 h2
            refine ⟨a', q1, q2, Or.inr (fun u' hu' => ?_), fun gl => ?_⟩
            · rw [hu] at hu'
              have := Option.some.inj hu'
              subst this
              exact ⟨fun _ => by omega, q3⟩
            · rw [base, if_pos a4, if_neg n10, if_neg (by rw [el]; exact g), q4]
        · obtain ⟨a', q1, q2, q3, q4⟩ := ih u (k + 1) fu a t1 t2 (by omega) (by omega) (by omega) h1 h2
          refine ⟨a', q1, q2, Or.inr (fun u' hu' => ?_), fun gl => ?_⟩
          · rw [hu] at hu'
            have := Option.some.inj hu'
            subst this
            exact ⟨fun hh => absurd hh a4, q3⟩
          · rw [base, if_neg a4, if_pos rfl, q4]
def Gm (c : Nat) (h h' : MHp) : Prop := Sc c h h' ∧ hI h' = hI h ∧ ∀ a : Nat, a ≠ c + 203 → hAI h' a = hAI h a
theorem Gm.rf {c : Nat} {h : MHp} : Gm c h h := ⟨Sc.rf, rfl, fun _ _ => rfl⟩
theorem Gm.tr {c : Nat} {h h1 h2 : MHp} (A : Gm c h h1) (B : Gm c h1 h2) : Gm c h h2 := ⟨A.1.tr B.1, B.2.1.trans A.2.1, fun a x => (B.2.2 a x).trans (A.2.2 a x)⟩
def Yo (c ls cs : Nat) (h : MHp) (y : Nat → Int) : Prop := ∀ cl : Nat, cl < ls * cs → hAI h (c + 203) cl = Int32.ofInt (y cl)
theorem p_change {c ls cs cl : Nat} {h : MHp} {y : Nat → Int} (G : Gc c ls cs h) (Y : Yo c ls cs h y) (hc : cl < ls * cs) (a : Int) : ∃ h1 : MHp, mX3_change h (c + 200) (Int32.ofNat cl) (Int32.ofInt a) = some h1 ∧ Gm c h h1 ∧ Yo c ls cs h1 (upA y cl a) := by
  obtain ⟨L, g1, g2, g3, g4, g5⟩ := id G
  have K := lK200 L
  have bw := bad_n (k := cl) (n := 100) (by omega) (by omega)
  have clw : (Int32.ofNat cl).toNatClampNeg = cl := cl_of (by omega)
  refine ⟨sAI h (c + 203) (va_up (hAI h (c + 203)) cl (hAI h (c + 203) cl + Int32.ofInt a)), ?_, ⟨Sc.AI 203 _ (by decide), rfl, fun a x => by rw [e_sAI, if_neg x]⟩, fun x hx => ?_⟩
  · rw [mX3_change, if_neg (by rw [nn_of (by omega)]; exact not_false), if_neg (by rw [show (100 : Int32) = Int32.ofNat 100 from rfl, le_of (by omega) (by omega)]; omega), b_gR, if_pos K, lR200_3 L, b_gAI, if_pos (lK203 L), lN203 L, if_neg bw, clw, b_pAI, if_pos (lK203 L), lN203 L, if_neg bw, clw]
  · rw [e_sAI, if_pos rfl, e_up]
    unfold upA
    by_cases e : x = cl
    · rw [if_pos e, if_pos e, Y cl hc, ← Int32.ofInt_add, e]
    · rw [if_neg e, if_neg e]; exact Y x hx
theorem c_mv {c ls cs q st : Nat} {out : Int64} {md : Bool} {y0 : Nat → Int} {fr : Nat → Option Nat} {ps : Nat → Nat} {a : Int} (T : Tr ls cs q (bL out) y0 md st fr ps) : ∀ (n v k fu : Nat) (h : MHp) (y : Nat → Int), Gc c ls cs h → Yo c ls cs h y → (∀ x : Nat, x < ls + cs → hAI h (c + 204) x = oi (fr x)) → v < ls + cs → fr v ≠ none → ps v ≤ n → k + ps v < 20 → n < fu → ∃ h1 : MHp, mX3_moveRound_l107 fu h (c + 200) (Int32.ofNat st) (mi md) (Int32.ofNat q) (Int32.ofInt a) (Int32.ofNat k) (Int32.ofNat v) = mX3_moveRound_b178 h1 (c + 200) (mi md) (Int32.ofNat q) (Int32.ofInt a) ∧ Gm c h h1 ∧ Yo c ls cs h1 (chg ls cs md a st fr n v y) := by
  intro n
  have hst := T.1
  have stop : ∀ (n k fu : Nat) (h : MHp) (y : Nat → Int), Gc c ls cs h → Yo c ls cs h y → k < 20 → n < fu → ∃ h1 : MHp, mX3_moveRound_l107 fu h (c + 200) (Int32.ofNat st) (mi md) (Int32.ofNat q) (Int32.ofInt a) (Int32.ofNat k) (Int32.ofNat st) = mX3_moveRound_b178 h1 (c + 200) (mi md) (Int32.ofNat q) (Int32.ofInt a) ∧ Gm c h h1 ∧ Yo c ls cs h1 (chg ls cs md a st fr n st y) := by
    intro n k fu h y G Y hk hf
    obtain ⟨fu, rfl⟩ : ∃ g : Nat, fu = g + 1 := ⟨fu - 1, by omega⟩
    refine ⟨h, ?_, Gm.rf, by rw [chg_0]; exact Y⟩
    rw [mX3_moveRound_l107, if_neg (by rw [show (20 : Int32) = Int32.ofNat 20 from rfl, le_of (by omega) (by omega)]; omega), if_pos rfl]
  induction n with
  | zero =>
    intro v k fu h y G Y hfr hv hn hp hk hf
    by_cases e : v = st
    · subst e
      exact stop 0 k fu h y G Y (by omega) hf
    · cases hu : fr v with
      | none => exact absurd hu hn
      | some u =>
        have := (T.2.2 v hv e u hu).2.2.1
        omega
  | succ n ih =>
    intro v k fu h y G Y hfr hv hn hp hk hf
    by_cases e : v = st
    · subst e
      exact stop (n + 1) k fu h y G Y (by omega) hf
    · obtain ⟨fu, rfl⟩ : ∃ g : Nat, fu = g + 1 := ⟨fu - 1, by omega⟩
      obtain ⟨L, g1, g2, g3, g4, g5⟩ := id G
      have K := lK200 L
      cases hu : fr v with
      | none => exact absurd hu hn
      | some u =>
        obtain ⟨t1, t2, t3, t4⟩ := T.2.2 v hv e u hu
        have sd := okF_side t4
        have s2 : u < ls ∧ ls ≤ v ∧ v < ls + cs ∨ ls ≤ u ∧ u < ls + cs ∧ v < ls := by omega
        have hcb := cb_lt s2
        have bv := bad_n (k := v) (n := 20) (by omega) (by omega)
        have clv : (Int32.ofNat v).toNatClampNeg = v := cl_of (by omega)
        obtain ⟨h2, e2, S2, Y2⟩ := p_change G Y hcb (sg ls md a u)
        have G2 := G.sc S2.1 S2.2.1
        obtain ⟨h3, e3, S3, Y3⟩ := ih u (k + 1) fu h2 (upA y (cb ls cs u v) (sg ls md a u)) G2 Y2 (fun x hx => by rw [S2.2.2 _ (by omega)]; exact hfr x hx) t1 t2 (by omega) (by omega) (by omega)
        refine ⟨h3, ?_, S2.tr S3, by rw [chg_s e hu]; exact Y3⟩
        rw [mX3_moveRound_l107, if_neg (by rw [show (20 : Int32) = Int32.ofNat 20 from rfl, le_of (by omega) (by omega)]; omega), if_neg (by rw [eq_of (by omega) (by omega)]; exact e), b_rcv, if_pos K, p_isNode G hv, o_bind, if_neg n10, b_gR, if_pos K, lR200_4 L, b_gAI, if_pos (lK204 L), lN204 L, if_neg bv, clv, hfr v hv, hu, show oi (some u) = Int32.ofNat u from rfl, b_rcv, if_pos K, p_cbw G s2, o_bind, b_rcv, if_pos K, p_loses G t1, o_bind]
        unfold sg at e2
        by_cases a4 : decide (u < ls) = md
        · rw [if_pos a4, Int32.ofInt_neg] at e2
          rw [if_pos a4, if_neg n10, mX3_moveRound_b165, b_rcv, if_pos K, e2, o_bind, s1_of, e3]
        · rw [if_neg a4] at e2
          rw [if_neg a4, if_pos rfl, mX3_moveRound_b165, b_rcv, if_pos K, e2, o_bind, s1_of, e3]

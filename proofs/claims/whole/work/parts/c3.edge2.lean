/-! the edge of the class
-/
theorem Fs_60 {ls cs : Nat} {out : Nat → Bool} {x0 y : Nat → Int} (hs : ∀ i : Nat, i < ls → nS ls cs x0 i ≤ 60) (F : Fs ls cs out x0 y) : ∀ c : Nat, c < ls * cs → y c ≤ 60 := by
  intro c hc
  have hcs : 0 < cs := Nat.pos_of_ne_zero (fun e => by rw [e, Nat.mul_zero] at hc; omega)
  have hi : c / cs < ls := (Nat.div_lt_iff_lt_mul hcs).mpr hc
  have hj : c % cs < cs := Nat.mod_lt _ hcs
  have e : c / cs * cs + c % cs = c := by
    have := Nat.div_add_mod c cs
    rw [Nat.mul_comm] at this
    exact this
  have h1 := hs (c / cs) hi
  rw [← F.2.2 (c / cs) (by omega)] at h1
  unfold nS at h1
  rw [if_pos hi] at h1
  have h2 := sm_ge (f := fun j => y (c / cs * cs + j)) cs hj (fun j hj' _ => F.1 _ (cell_lt hi hj'))
  have h2 : y (c / cs * cs + c % cs) ≤ sm (fun j => y (c / cs * cs + j)) cs := h2
  rw [e] at h2
  exact Int.le_trans h2 h1
theorem Yc_of {c ls cs : Nat} {h : MHp} {out : Nat → Bool} {x0 y : Nat → Int} (hs : ∀ i : Nat, i < ls → nS ls cs x0 i ≤ 60) (F : Fs ls cs out x0 y) (Y : Yo c ls cs h y) : Yc c ls cs h y := fun cl hcl => ⟨Y cl hcl, F.1 cl hcl, Fs_60 hs F cl hcl⟩
theorem Fs_mv {ls cs i0 j0 n : Nat} {out : Nat → Bool} {x0 y : Nat → Int} {md : Bool} {fr : Nat → Option Nat} {ps : Nat → Nat} {a : Int} (hi : i0 < ls) (hj : j0 < cs) (T : Tr ls cs (i0 * cs + j0) out y md i0 fr ps) (hgl : fr (ls + j0) ≠ none) (hn : ps (ls + j0) ≤ n) (F : Fs ls cs out x0 y) (hq : out (i0 * cs + j0) = true) (ha : 0 ≤ a) (E : Enf ls cs md a i0 fr y n (ls + j0)) (hlo : md = false → a ≤ y (i0 * cs + j0)) : Fs ls cs out x0 (upA (chg ls cs md a i0 fr n (ls + j0) y) (i0 * cs + j0) (if md = true then a else -a)) ∧ upA (chg ls cs md a i0 fr n (ls + j0) y) (i0 * cs + j0) (if md = true then a else -a) (i0 * cs + j0) = y (i0 * cs + j0) + (if md = true then a else -a) := by
  have nn := chg_nn ha T n (ls + j0) y (by omega) hgl hn E F.1 (fun _ _ _ _ _ _ => rfl)
  have oo := chg_out T (a := a) n (ls + j0) y (by omega) hgl
  have sums := chg_nS T (a := a) n (ls + j0) y (by omega) hgl hn
  have eq := oo (i0 * cs + j0) (Or.inr (Or.inl rfl))
  have hc := cell_lt hi hj
  refine ⟨⟨fun c hc' => ?_, fun c hc' ho => ?_, fun x hx => ?_⟩, by unfold upA; rw [if_pos rfl, eq]⟩
  · unfold upA
    by_cases e : c = i0 * cs + j0
    · rw [if_pos e, e, eq]
      have := F.1 _ hc
      cases md with
      | true => rw [if_pos rfl]; omega
      | false =>
        have := hlo rfl
        rw [if_neg (by decide)]; omega
    · rw [if_neg e]; exact nn c hc'
  · unfold upA
    rw [if_neg (fun e => by rw [e, hq] at ho; cases ho), oo c (Or.inl ho)]
    exact F.2.1 c hc' ho
  · rw [nS_up hi hj hx, sums x hx, F.2.2 x hx]
    have s1 : sg ls md a i0 = (if md = true then -a else a) := by
      unfold sg; rw [decide_eq_true hi]
      cases md
      · rw [if_neg (by decide), if_neg (by decide)]
      · rw [if_pos rfl]
    have s2 : sg ls md a (ls + j0) = (if md = true then a else -a) := by
      unfold sg; rw [decide_eq_false (show ¬ ls + j0 < ls by omega)]
      cases md
      · rw [if_pos rfl, if_neg (by decide)]
      · rw [if_neg (by decide), if_pos rfl]
    rw [s1, s2]
    by_cases x1 : x = i0
    · rw [if_pos x1, if_neg (show ¬ x = ls + j0 by omega), if_pos (Or.inl x1)]
      cases md
      · rw [if_neg (by decide), if_neg (by decide)]; omega
      · rw [if_pos rfl, if_pos rfl]; omega
    · by_cases x2 : x = ls + j0
      · rw [if_neg x1, if_pos x2, if_pos (Or.inr x2)]; omega
      · rw [if_neg x1, if_neg x2, if_neg (by omega)]; omega
def Gq (c : Nat) (h h' : MHp) : Prop := Sc c h h' ∧ hI h' = hI h ∧ hAI h' (c + 201) = hAI h (c + 201)
theorem Gq.tr {c : Nat} {h h1 h2 : MHp} (A : Gq c h h1) (B : Gq c h1 h2) : Gq c h h2 := ⟨A.1.tr B.1, B.2.1.trans A.2.1, B.2.2.trans A.2.2⟩
theorem Gf.q {c : Nat} {h h' : MHp} (S : Gf c h h') : Gq c h h' := ⟨S.1, S.2.1, S.2.2 _ (by omega) (by omega)⟩
theorem Gm.q {c : Nat} {h h' : MHp} (S : Gm c h h') : Gq c h h' := ⟨S.1, S.2.1, S.2.2 _ (by omega)⟩
theorem p_moveRound {c ls cs i0 j0 : Nat} {out : Int64} {md : Bool} {x0 y : Nat → Int} {h : MHp} {fr : Nat → Option Nat} {ps : Nat → Nat} (G : Gc c ls cs h) (hi : i0 < ls) (hj : j0 < cs) (hs : ∀ i : Nat, i < ls → nS ls cs x0 i ≤ 60) (F : Fs ls cs (bL out) x0 y) (Y : Yo c ls cs h y) (T : Tr ls cs (i0 * cs + j0) (bL out) y md i0 fr ps) (hfr : ∀ x : Nat, x < ls + cs → hAI h (c + 204) x = oi (fr x)) (hgl : fr (ls + j0) ≠ none) (hps : ps (ls + j0) < 20) (hq : bL out (i0 * cs + j0) = true) (hlo : md = false → 0 < y (i0 * cs + j0)) : ∃ (h1 : MHp) (y1 : Nat → Int), mX3_moveRound h (c + 200) (Int32.ofNat i0) (Int32.ofNat (ls + j0)) (mi md) = some h1 ∧ Gq c h h1 ∧ Yo c ls cs h1 y1 ∧ Fs ls cs (bL out) x0 y1 ∧ (md = true → y (i0 * cs + j0) < y1 (i0 * cs + j0)) ∧ (md = false → y1 (i0 * cs + j0) < y (i0 * cs + j0)) := by
  obtain ⟨L, g1, g2, g3, g4, g5⟩ := id G
  have K := lK200 L
  have hc := cell_lt hi hj
  have Yy := Yc_of hs F Y
  have ecb : cb ls cs i0 (ls + j0) = i0 * cs + j0 := by
    unfold cb
    rw [if_pos hi, Nat.add_sub_cancel_left]
  have ecw := p_cbw G (show i0 < ls ∧ ls ≤ ls + j0 ∧ ls + j0 < ls + cs ∨ ls ≤ i0 ∧ i0 < ls + cs ∧ ls + j0 < ls by omega)
  rw [ecb] at ecw
  obtain ⟨y1, y2, y3⟩ := Yy (i0 * cs + j0) hc
  have b23 : ∀ (a : Int) (md' : Bool), mX3_moveRound_b23 h (c + 200) (Int32.ofNat i0) (Int32.ofNat (ls + j0)) (mi md') (Int32.ofNat (i0 * cs + j0)) (Int32.ofInt a) = mX3_moveRound_l31 FUEL h (c + 200) (Int32.ofNat i0) (Int32.ofNat (ls + j0)) (mi md') (Int32.ofNat (i0 * cs + j0)) (Int32.ofInt a) (Int32.ofNat 0) (Int32.ofNat (ls + j0)) := fun a md' => by
    rw [mX3_moveRound_b23]
    rfl
  have go : ∀ a : Int, 1 ≤ a → a ≤ 60 → (md = false → a ≤ y (i0 * cs + j0)) → mX3_moveRound h (c + 200) (Int32.ofNat i0) (Int32.ofNat (ls + j0)) (mi md) = mX3_moveRound_b23 h (c + 200) (Int32.ofNat i0) (Int32.ofNat (ls + j0)) (mi md) (Int32.ofNat (i0 * cs + j0)) (Int32.ofInt a) → ∃ (h1 : MHp) (y1 : Nat → Int), mX3_moveRound h (c + 200) (Int32.ofNat i0) (Int32.ofNat (ls + j0)) (mi md) = some h1 ∧ Gq c h h1 ∧ Yo c ls cs h1 y1 ∧ Fs ls cs (bL out) x0 y1 ∧ (md = true → y (i0 * cs + j0) < y1 (i0 * cs + j0)) ∧ (md = false → y1 (i0 * cs + j0) < y (i0 * cs + j0)) := by
    intro a ha1 ha2 hal e0
    obtain ⟨a', q1, q2, q3, q4⟩ := c_am G Yy T hfr 20 (ls + j0) 0 FUEL a (by omega) hgl (by omega) (by omega) (by unfold FUEL; omega) ha1 ha2
    obtain ⟨h2, e2, S2, Y2⟩ := c_mv (a := a') T 20 (ls + j0) 0 FUEL h y G Y hfr (by omega) hgl (by omega) (by omega) (by unfold FUEL; omega)
    have e2' : mX3_moveRound_l107 FUEL h (c + 200) (Int32.ofNat i0) (mi md) (Int32.ofNat (i0 * cs + j0)) (Int32.ofInt a') 0 (Int32.ofNat (ls + j0)) = _ := e2
    have G2 := G.sc S2.1 S2.2.1
    obtain ⟨h3, e3, S3, Y3⟩ := p_change G2 Y2 hc (if md = true then a' else -a')
    obtain ⟨F3, v3⟩ := Fs_mv hi hj T hgl (show ps (ls + j0) ≤ 20 by omega) F hq (show 0 ≤ a' by omega) q3 (fun hm => by have := hal hm; omega)
    refine ⟨h3, _, ?_, S2.q.tr S3.q, Y3, F3, fun hm => ?_, fun hm => ?_⟩
    · rw [e0, b23, q4, mX3_moveRound_b101, e2', mX3_moveRound_b178]
      have K2 := lK200 G2.1
      cases md with
      | true =>
        rw [if_pos rfl] at e3
        rw [if_neg (show ¬ mi true = 0 by decide), mX3_moveRound_b193, b_rcv, if_pos K2, e3, o_bind]
      | false =>
        rw [if_neg (by decide), Int32.ofInt_neg] at e3
        rw [if_pos (show mi false = 0 from rfl), mX3_moveRound_b193, b_rcv, if_pos K2, e3, o_bind]
    · rw [v3, if_pos hm]; omega
    · rw [v3, hm, if_neg (by decide)]; omega
  cases md with
  | true =>
    refine go 60 (by omega) (by omega) (fun h => by cases h) ?_
    rw [mX3_moveRound, b_rcv, if_pos K, ecw, o_bind, if_neg (show ¬ mi true = 0 by decide)]
    rfl
  | false =>
    have := hlo rfl
    refine go (y (i0 * cs + j0)) (by omega) y3 (fun _ => Int.le_refl _) ?_
    rw [mX3_moveRound, b_rcv, if_pos K, ecw, o_bind, if_pos (show mi false = 0 from rfl), b_rcv, if_pos K, p_countAt G (by omega), o_bind, y1]
theorem c_eol {c ls cs i0 j0 : Nat} {out : Int64} {md : Bool} {x0 : Nat → Int} (hi : i0 < ls) (hj : j0 < cs) (hs : ∀ i : Nat, i < ls → nS ls cs x0 i ≤ 60) (hq : bL out (i0 * cs + j0) = true) : ∀ (mz t fu : Nat) (h : MHp) (y : Nat → Int), Gc c ls cs h → Yo c ls cs h y → Fs ls cs (bL out) x0 y → (md = true → 60 - y (i0 * cs + j0) ≤ (mz : Int)) → (md = false → y (i0 * cs + j0) ≤ (mz : Int)) → t + mz < 1000000 → mz < fu → ∃ (h1 : MHp) (y1 : Nat → Int), mX3_edgeOf_l59 fu h (c + 200) (Int32.ofNat (i0 * cs + j0)) out (mi md) (Int32.ofNat i0) (Int32.ofNat (ls + j0)) (Int32.ofNat t) = some (Int32.ofInt (y1 (i0 * cs + j0)), h1) ∧ Gq c h h1 ∧ Fs ls cs (bL out) x0 y1 ∧ (md = true → ∀ z : Nat → Int, Fs ls cs (bL out) x0 z → z (i0 * cs + j0) ≤ y1 (i0 * cs + j0)) ∧ (md = false → ∀ z : Nat → Int, Fs ls cs (bL out) x0 z → y1 (i0 * cs + j0) ≤ z (i0 * cs + j0)) := by
  intro mz
  have hc := cell_lt hi hj
  induction mz with
  | zero =>
    intro t fu h y G Y F m1 m2 ht hf
    obtain ⟨fu, rfl⟩ : ∃ g : Nat, fu = g + 1 := ⟨fu - 1, by omega⟩
    obtain ⟨L, g1, g2, g3, g4, g5⟩ := id G
    have K := lK200 L
    have Yy := Yc_of hs F Y
    obtain ⟨y1, y2, y3⟩ := Yy (i0 * cs + j0) hc
    have bw := bad_n (k := i0 * cs + j0) (n := 100) (by omega) (by omega)
    have clw : (Int32.ofNat (i0 * cs + j0)).toNatClampNeg = i0 * cs + j0 := cl_of (by omega)
    have c1 : ¬ (1000000 : Int32) ≤ Int32.ofNat t := by rw [show (1000000 : Int32) = Int32.ofNat 1000000 from rfl, le_of (by omega) (by omega)]; omega
    cases md with
    | false =>
      have y4 := m2 rfl
      refine ⟨h, y, ?_, ⟨Sc.rf, rfl, rfl⟩, F, (fun hm => by cases hm), fun _ z hz => ?_⟩
      · rw [mX3_edgeOf_l59, if_neg c1, if_pos (show mi false = 0 from rfl), b_gR, if_pos K, lR200_3 L, b_gAI, if_pos (lK203 L), lN203 L, if_neg bw, clw, y1, if_pos (by rw [oI_le y2 y3]; omega), mX3_edgeOf_b113, b_gR, if_pos K, lR200_3 L, b_gAI, if_pos (lK203 L), lN203 L, if_neg bw, clw, y1]
      · have := hz.1 _ hc
        omega
    | true =>
      have y4 := m1 rfl
      obtain ⟨h1, fr, ps, e1, S1, r1, T, r2, r3⟩ := p_findCircle (out := out) (md := true) G Yy hi hj
      have L1 := S1.1.CL L
      have Y1 : Yo c ls cs h1 y := fun cl hcl => ((Yy.f S1) cl hcl).1
      have G1 := G.sc S1.1 S1.2.1
      cases hfr : fr (ls + j0) with
      | none =>
        have cl := r3 hfr
        refine ⟨h1, y, ?_, S1.q, F, fun _ z hz => ?_, (fun hm => by cases hm)⟩
        · rw [mX3_edgeOf_l59, if_neg c1, if_neg (show ¬ mi true = 0 by decide), mX3_edgeOf_b80, b_rcv, if_pos K, e1, o_bind, if_pos hfr, if_pos rfl, mX3_edgeOf_b113, b_gR, if_pos (lK200 L1), lR200_3 L1, b_gAI, if_pos (lK203 L1), lN203 L1, if_neg bw, clw, Y1 _ hc]
        · exact opt_A (S := fun v => decide (fr v ≠ none)) hi hj F hz (fun u v hu hv su o => by
            rw [decide_eq_true_eq] at su ⊢
            exact cl u v hu hv su o) (decide_eq_true (by rw [T.2.1]; exact Option.some_ne_none _)) (decide_eq_false (fun h => h hfr))
      | some w =>
        have hgl : fr (ls + j0) ≠ none := by rw [hfr]; exact Option.some_ne_none _
        obtain ⟨h2, yy, e2, S2, Y2, F2, v1, v2⟩ := p_moveRound G1 hi hj hs F Y1 T r1 hgl (r2 _ (by omega) hgl) hq (fun hm => by cases hm)
        have := v1 rfl
        have := Fs_60 hs F2 _ hc
        omega
  | succ mz ih =>
    intro t fu h y G Y F m1 m2 ht hf
    obtain ⟨fu, rfl⟩ : ∃ g : Nat, fu = g + 1 := ⟨fu - 1, by omega⟩
    obtain ⟨L, g1, g2, g3, g4, g5⟩ := id G
    have K := lK200 L
    have Yy := Yc_of hs F Y
    obtain ⟨y1, y2, y3⟩ := Yy (i0 * cs + j0) hc
    have bw := bad_n (k := i0 * cs + j0) (n := 100) (by omega) (by omega)
    have clw : (Int32.ofNat (i0 * cs + j0)).toNatClampNeg = i0 * cs + j0 := cl_of (by omega)
    have c1 : ¬ (1000000 : Int32) ≤ Int32.ofNat t := by rw [show (1000000 : Int32) = Int32.ofNat 1000000 from rfl, le_of (by omega) (by omega)]; omega
    have go : (md = false → 0 < y (i0 * cs + j0)) → mX3_edgeOf_l59 (fu + 1) h (c + 200) (Int32.ofNat (i0 * cs + j0)) out (mi md) (Int32.ofNat i0) (Int32.ofNat (ls + j0)) (Int32.ofNat t) = mX3_edgeOf_b80 (mX3_edgeOf_l59 fu) h (c + 200) (Int32.ofNat (i0 * cs + j0)) out (mi md) (Int32.ofNat i0) (Int32.ofNat (ls + j0)) (Int32.ofNat t) → ∃ (h1 : MHp) (y1 : Nat → Int), mX3_edgeOf_l59 (fu + 1) h (c + 200) (Int32.ofNat (i0 * cs + j0)) out (mi md) (Int32.ofNat i0) (Int32.ofNat (ls + j0)) (Int32.ofNat t) = some (Int32.ofInt (y1 (i0 * cs + j0)), h1) ∧ Gq c h h1 ∧ Fs ls cs (bL out) x0 y1 ∧ (md = true → ∀ z : Nat → Int, Fs ls cs (bL out) x0 z → z (i0 * cs + j0) ≤ y1 (i0 * cs + j0)) ∧ (md = false → ∀ z : Nat → Int, Fs ls cs (bL out) x0 z → y1 (i0 * cs + j0) ≤ z (i0 * cs + j0)) := by
      intro hlo e0
      obtain ⟨h1, fr, ps, e1, S1, r1, T, r2, r3⟩ := p_findCircle (out := out) (md := md) G Yy hi hj
      have L1 := S1.1.CL L
      have Y1 : Yo c ls cs h1 y := fun cl hcl => ((Yy.f S1) cl hcl).1
      have G1 := G.sc S1.1 S1.2.1
      cases hfr : fr (ls + j0) with
      | none =>
        have cl := r3 hfr
        have scl : ∀ u v : Nat, u < ls + cs → v < ls + cs → (fun v => decide (fr v ≠ none)) u = true → okF ls cs (i0 * cs + j0) (bL out) y md u v = true → (fun v => decide (fr v ≠ none)) v = true := fun u v hu hv su o => by
          have su' : decide (fr u ≠ none) = true := su
          rw [decide_eq_true_eq] at su'
          exact decide_eq_true (cl u v hu hv su' o)
        refine ⟨h1, y, ?_, S1.q, F, fun hm z hz => ?_, fun hm z hz => ?_⟩
        · rw [e0, mX3_edgeOf_b80, b_rcv, if_pos K, e1, o_bind, if_pos hfr, if_pos rfl, mX3_edgeOf_b113, b_gR, if_pos (lK200 L1), lR200_3 L1, b_gAI, if_pos (lK203 L1), lN203 L1, if_neg bw, clw, Y1 _ hc]
        · subst hm
          exact opt_A (S := fun v => decide (fr v ≠ none)) hi hj F hz scl (decide_eq_true (by rw [T.2.1]; exact Option.some_ne_none _)) (decide_eq_false (fun h => h hfr))
        · subst hm
          exact opt_B (S := fun v => decide (fr v ≠ none)) hi hj F hz scl (decide_eq_true (by rw [T.2.1]; exact Option.some_ne_none _)) (decide_eq_false (fun h => h hfr))
      | some w =>
        have hgl : fr (ls + j0) ≠ none := by rw [hfr]; exact Option.some_ne_none _
        obtain ⟨h2, yy, e2, S2, Y2, F2, v1, v2⟩ := p_moveRound G1 hi hj hs F Y1 T r1 hgl (r2 _ (by omega) hgl) hq hlo
        obtain ⟨h3, y3', e3, S3, r5⟩ := ih (t + 1) fu h2 yy (G1.sc S2.1 S2.2.1) Y2 F2 (fun hm => by have := v1 hm; have := m1 hm; omega) (fun hm => by have := v2 hm; have := m2 hm; omega) (by omega) (by omega)
        refine ⟨h3, y3', ?_, (S1.q.tr S2).tr S3, r5⟩
        rw [e0, mX3_edgeOf_b80, b_rcv, if_pos K, e1, o_bind, if_neg hgl, if_neg n10, b_rcv, if_pos (lK200 L1), e2, o_bind, s1_of, e3]
    cases md with
    | true =>
      refine go (fun hm => by cases hm) ?_
      rw [mX3_edgeOf_l59, if_neg c1, if_neg (show ¬ mi true = 0 by decide)]
    | false =>
      by_cases y4 : 0 < y (i0 * cs + j0)
      · refine go (fun _ => y4) ?_
        rw [mX3_edgeOf_l59, if_neg c1, if_pos (show mi false = 0 from rfl), b_gR, if_pos K, lR200_3 L, b_gAI, if_pos (lK203 L), lN203 L, if_neg bw, clw, y1, if_neg (by rw [oI_le y2 y3]; omega)]
      · refine ⟨h, y, ?_, ⟨Sc.rf, rfl, rfl⟩, F, (fun hm => by cases hm), fun _ z hz => ?_⟩
        · rw [mX3_edgeOf_l59, if_neg c1, if_pos (show mi false = 0 from rfl), b_gR, if_pos K, lR200_3 L, b_gAI, if_pos (lK203 L), lN203 L, if_neg bw, clw, y1, if_pos (by rw [oI_le y2 y3]; omega), mX3_edgeOf_b113, b_gR, if_pos K, lR200_3 L, b_gAI, if_pos (lK203 L), lN203 L, if_neg bw, clw, y1]
        · have := hz.1 _ hc
          omega
/-- least or most, in a word -/
def Best (ls cs : Nat) (out : Nat → Bool) (x0 : Nat → Int) (q : Nat) (md : Bool) (v : Int) : Prop := ∃ y : Nat → Int, Fs ls cs out x0 y ∧ v = y q ∧ (md = true → ∀ z : Nat → Int, Fs ls cs out x0 z → z q ≤ v) ∧ (md = false → ∀ z : Nat → Int, Fs ls cs out x0 z → v ≤ z q)
theorem Best.un {ls cs q : Nat} {out : Nat → Bool} {x0 : Nat → Int} {md : Bool} {v w : Int} (A : Best ls cs out x0 q md v) (B : Best ls cs out x0 q md w) : v = w := by
  obtain ⟨y, f, rfl, a1, a2⟩ := A
  obtain ⟨y', f', rfl, b1, b2⟩ := B
  cases md with
  | true =>
    have := a1 rfl y' f'
    have := b1 rfl y f
    omega
  | false =>
    have := a2 rfl y' f'
    have := b2 rfl y f
    omega
theorem p_edgeOf {c ls cs i0 j0 : Nat} {out : Int64} {x0 : Nat → Int} {h : MHp} (md : Bool) (G : Gc c ls cs h) (hi : i0 < ls) (hj : j0 < cs) (hx : ∀ cl : Nat, cl < ls * cs → hAI h (c + 201) cl = Int32.ofInt (x0 cl) ∧ 0 ≤ x0 cl) (hs : ∀ i : Nat, i < ls → nS ls cs x0 i ≤ 60) (hq : bL out (i0 * cs + j0) = true) : ∃ (h1 : MHp) (v : Int), mX3_edgeOf h (c + 200) (Int32.ofNat (i0 * cs + j0)) out (mi md) = some (Int32.ofInt v, h1) ∧ Gq c h h1 ∧ Best ls cs (bL out) x0 (i0 * cs + j0) md v := by
  obtain ⟨L, g1, g2, g3, g4, g5⟩ := id G
  have K := lK200 L
  have hc := cell_lt hi hj
  obtain ⟨X, hX⟩ : ∃ X : MHp, X = sAI h (c + 203) (va_cpy (hAI h (c + 201)) (hAI h (c + 203)) 0 0 100) := ⟨_, rfl⟩
  have e0 : (cpI 20 h (some (c + 201)) 0 (some (c + 203)) 0 100) = some X := by
    have c4 : ¬ ((0 : Int32) < 0 ∨ (0 : Int32) < 0 ∨ (100 : Int32) < 0 ∨ 100 < (0 : Int32).toNatClampNeg + (100 : Int32).toNatClampNeg ∨ 100 < (0 : Int32).toNatClampNeg + (100 : Int32).toNatClampNeg) := by decide
    unfold cpI
    rw [b_rcv, if_pos (lK201 L), b_rcv, if_pos (lK203 L), lN201 L, lN203 L, if_neg c4, hX]
    rfl
  have S0 : Gq c h X := ⟨by rw [hX]; exact Sc.AI 203 _ (by decide), by rw [hX]; rfl, by rw [hX, e_sAI, if_neg (by omega)]⟩
  have F0 : Fs ls cs (bL out) x0 x0 := ⟨fun cl hcl => (hx cl hcl).2, fun _ _ _ => rfl, fun _ _ => rfl⟩
  have Y0 : Yo c ls cs X x0 := fun cl hcl => by
    rw [hX, e_sAI, if_pos rfl]
    unfold va_cpy
    rw [if_pos (by omega)]
    have : 0 + (cl - 0) = cl := by omega
    rw [this]
    exact (hx cl hcl).1
  have b60 := Fs_60 hs F0 _ hc
  have b0 := F0.1 _ hc
  obtain ⟨h1, y1, e1, S1, F1, r1, r2⟩ := c_eol (md := md) hi hj hs hq 60 0 FUEL X x0 (G.sc S0.1 S0.2.1) Y0 F0 (fun _ => by omega) (fun _ => by omega) (by omega) (by unfold FUEL; omega)
  refine ⟨h1, y1 (i0 * cs + j0), ?_, S0.tr S1, y1, F1, rfl, r1, r2⟩
  have z : ¬ Int32.ofNat cs = 0 := by rw [show (0 : Int32) = Int32.ofNat 0 from rfl, eq_of (by omega) (by omega)]; omega
  have d1 : (i0 * cs + j0) / cs = i0 := by rw [Nat.mul_comm, Nat.mul_add_div (by omega), Nat.div_eq_of_lt hj, Nat.add_zero]
  have d2 : (i0 * cs + j0) % cs = j0 := by rw [Nat.mul_comm, Nat.mul_add_mod, Nat.mod_eq_of_lt hj]
  rw [mX3_edgeOf, if_neg (by rw [nn_of (by omega)]; exact not_false), if_neg (by rw [show (100 : Int32) = Int32.ofNat 100 from rfl, le_of (by omega) (by omega)]; omega), b_gI, if_pos K, g2, if_pos (by rw [show (1 : Int32) = Int32.ofNat 1 from rfl, le_of (by omega) (by omega)]; omega), b_gI, if_pos K, g2, nz, if_neg z, o_bind, b_gI, if_pos K, g1, b_gI, if_pos K, g2, nz, if_neg z, o_bind, b_gR, if_pos K, lR200_1 L, b_gR, if_pos K, lR200_3 L, e0, o_bind, md_of (by omega) (by omega), dv_of (by omega) (by omega), d1, d2, ← Int32.ofNat_add]
  exact e1

/-! the reference's least and most -/
def Rm (m : Nat) (h h' : MHp) : Prop := Rs m h h' ∧ hI h' = hI h ∧ ∀ a : Nat, a ≠ m + 21 → hAI h' a = hAI h a
theorem Rm.rf {m : Nat} {h : MHp} : Rm m h h := ⟨Rs.rf, rfl, fun _ _ => rfl⟩
theorem Rm.tr {m : Nat} {h h1 h2 : MHp} (A : Rm m h h1) (B : Rm m h1 h2) : Rm m h h2 := ⟨A.1.tr B.1, B.2.1.trans A.2.1, fun a x => (B.2.2 a x).trans (A.2.2 a x)⟩
def Rq (m : Nat) (h h' : MHp) : Prop := Rs m h h' ∧ hI h' = hI h ∧ hAI h' (m + 19) = hAI h (m + 19)
theorem Rq.tr {m : Nat} {h h1 h2 : MHp} (A : Rq m h h1) (B : Rq m h1 h2) : Rq m h h2 := ⟨A.1.tr B.1, B.2.1.trans A.2.1, B.2.2.trans A.2.2⟩
theorem Rf.q {m : Nat} {h h' : MHp} (S : Rf m h h') : Rq m h h' := ⟨S.1, S.2.1, S.2.2 _ (by omega) (by omega)⟩
theorem Rm.q {m : Nat} {h h' : MHp} (S : Rm m h h') : Rq m h h' := ⟨S.1, S.2.1, S.2.2 _ (by omega)⟩
theorem q_mv {m ls cs q st : Nat} {out : Int64} {y0 : Nat → Int} {fr : Nat → Option Nat} {ps : Nat → Nat} (T : Tr ls cs q (bL out) y0 false st fr ps) : ∀ (n v fu : Nat) (h : MHp) (y : Nat → Int), Rc m ls cs h → Ry m ls cs q h y → (∀ x : Nat, x < ls + cs → hAI h (m + 22) x = oi (fr x)) → v < ls + cs → fr v ≠ none → ps v ≤ n → n < fu → ∃ h1 : MHp, (∀ (k40 : MHp → Nat → Int32 → Int32 → Int64 → Int32 → Int32 → Int32 → Option (Int32 × MHp)) (gl most sum : Int32), mX16_goes_l62 k40 fu h m (Int32.ofNat st) gl out (Int32.ofNat q) most sum (Int32.ofNat v) = k40 h1 m (Int32.ofNat st) gl out (Int32.ofNat q) most (sum + 1)) ∧ Rm m h h1 ∧ Ry m ls cs q h1 (chg ls cs false 1 st fr n v y) := by
  intro n
  have hst := T.1
  have stop : ∀ (n fu : Nat) (h : MHp) (y : Nat → Int), Ry m ls cs q h y → n < fu → ∃ h1 : MHp, (∀ (k40 : MHp → Nat → Int32 → Int32 → Int64 → Int32 → Int32 → Int32 → Option (Int32 × MHp)) (gl most sum : Int32), mX16_goes_l62 k40 fu h m (Int32.ofNat st) gl out (Int32.ofNat q) most sum (Int32.ofNat st) = k40 h1 m (Int32.ofNat st) gl out (Int32.ofNat q) most (sum + 1)) ∧ Rm m h h1 ∧ Ry m ls cs q h1 (chg ls cs false 1 st fr n st y) := by
    intro n fu h y Y hf
    obtain ⟨fu, rfl⟩ : ∃ g : Nat, fu = g + 1 := ⟨fu - 1, by omega⟩
    refine ⟨h, fun k40 gl most sum => ?_, Rm.rf, by rw [chg_0]; exact Y⟩
    rw [mX16_goes_l62, if_pos rfl]
  induction n with
  | zero =>
    intro v fu h y G Y hfr hv hn hp hf
    by_cases e : v = st
    · subst e
      exact stop 0 fu h y Y hf
    · cases hu : fr v with
      | none => exact absurd hu hn
      | some u =>
        have := (T.2.2 v hv e u hu).2.2.1
        omega
  | succ n ih =>
    intro v fu h y G Y hfr hv hn hp hf
    by_cases e : v = st
    · subst e
      exact stop (n + 1) fu h y Y hf
    · obtain ⟨fu, rfl⟩ : ∃ g : Nat, fu = g + 1 := ⟨fu - 1, by omega⟩
      obtain ⟨L, g1, g2, g3, g4, g5⟩ := id G
      have K := qK0 L
      cases hu : fr v with
      | none => exact absurd hu hn
      | some u =>
        obtain ⟨t1, t2, t3, t4⟩ := T.2.2 v hv e u hu
        have sd := okF_side t4
        have s2 : u < ls ∧ ls ≤ v ∧ v < ls + cs ∨ ls ≤ u ∧ u < ls + cs ∧ v < ls := by omega
        have hcb := cb_lt s2
        have nq : cb ls cs u v ≠ q := by
          unfold okF at t4
          rw [decide_eq_true_eq] at t4
          exact t4.2.1
        have bv := bad_n (k := v) (n := 20) (by omega) (by omega)
        have clv : (Int32.ofNat v).toNatClampNeg = v := cl_of (by omega)
        have bw := bad_n (k := cb ls cs u v) (n := 100) (by omega) (by omega)
        have clw : (Int32.ofNat (cb ls cs u v)).toNatClampNeg = cb ls cs u v := cl_of (by omega)
        obtain ⟨X, hX⟩ : ∃ X : MHp, X = sAI h (m + 21) (va_up (hAI h (m + 21)) (cb ls cs u v) (Int32.ofInt (y (cb ls cs u v) + sg ls false 1 u))) := ⟨_, rfl⟩
        have SX : Rm m h X := ⟨by rw [hX]; exact Rs.AI 21 _ (by decide), by rw [hX]; rfl, fun a x => by rw [hX, e_sAI, if_neg x]⟩
        have GX := G.sc SX.1 SX.2.1
        have LX := GX.1
        have YX : Ry m ls cs q X (upA y (cb ls cs u v) (sg ls false 1 u)) := fun x hx hne => by
          rw [hX, e_sAI, if_pos rfl, e_up]
          unfold upA
          by_cases e : x = cb ls cs u v
          · rw [if_pos e, if_pos e, e]
          · rw [if_neg e, if_neg e]; exact Y x hx hne
        have hfX : ∀ x : Nat, x < ls + cs → hAI X (m + 22) x = oi (fr x) := fun x hx => by rw [SX.2.2 _ (by omega)]; exact hfr x hx
        obtain ⟨h3, e3, S3, Y3⟩ := ih u fu X (upA y (cb ls cs u v) (sg ls false 1 u)) GX YX hfX t1 t2 (by omega) (by omega)
        refine ⟨h3, fun k40 gl most sum => ?_, SX.tr S3, by rw [chg_s e hu]; exact Y3⟩
        have b137 : mX16_goes_b137 k40 (mX16_goes_l62 k40 fu) X m (Int32.ofNat st) gl out (Int32.ofNat q) most sum (Int32.ofNat v) = k40 h3 m (Int32.ofNat st) gl out (Int32.ofNat q) most (sum + 1) := by
          rw [mX16_goes_b137, b_gR, if_pos (qK0 LX), qR47 LX, b_gAI, if_pos (qK22 LX), qN22 LX, if_neg bv, clv, hfX v hv, hu, show oi (some u) = Int32.ofNat u from rfl, e3]
        rcases sd with ⟨s1, s3⟩ | ⟨s1, s3⟩
        · have cu : ¬ Int32.ofNat ls ≤ Int32.ofNat u := by rw [le_of (by omega) (by omega)]; omega
          have ec : Int32.ofNat cs * Int32.ofNat u + Int32.ofNat v - Int32.ofNat ls = Int32.ofNat (cb ls cs u v) := by
            unfold cb
            rw [if_pos s1, ← Int32.ofNat_mul, ← Int32.ofNat_add, ← Int32.ofNat_sub _ _ (by omega), Nat.add_sub_assoc s3, Nat.mul_comm]
          have ev : Int32.ofInt (y (cb ls cs u v)) + 1 = Int32.ofInt (y (cb ls cs u v) + sg ls false 1 u) := by
            unfold sg
            rw [decide_eq_true s1, if_neg (by decide), Int32.ofInt_add]
            rfl
          rw [mX16_goes_l62, if_neg (by rw [eq_of (by omega) (by omega)]; exact e), b_gR, if_pos K, qR47 L, b_gAI, if_pos (qK22 L), qN22 L, if_neg bv, clv, hfr v hv, hu, show oi (some u) = Int32.ofNat u from rfl, b_gI, if_pos K, g1, if_neg cu, b_gR, if_pos K, qR44 L, b_gI, if_pos K, g2, b_gI, if_pos K, g1, ec, b_gAI, if_pos (qK21 L), qN21 L, if_neg bw, clw, Y _ hcb nq, b_pAI, if_pos (qK21 L), qN21 L, if_neg bw, clw, ev, ← hX, b137]
        · have cu : Int32.ofNat ls ≤ Int32.ofNat u := by rw [le_of (by omega) (by omega)]; omega
          have ec : Int32.ofNat cs * Int32.ofNat v + Int32.ofNat u - Int32.ofNat ls = Int32.ofNat (cb ls cs u v) := by
            unfold cb
            rw [if_neg (by omega), ← Int32.ofNat_mul, ← Int32.ofNat_add, ← Int32.ofNat_sub _ _ (by omega), Nat.add_sub_assoc s1, Nat.mul_comm]
          have ev : Int32.ofInt (y (cb ls cs u v)) - 1 = Int32.ofInt (y (cb ls cs u v) + sg ls false 1 u) := by
            unfold sg
            rw [decide_eq_false (by omega), if_pos rfl, Int32.ofInt_add, Int32.sub_eq_add_neg]
            rfl
          rw [mX16_goes_l62, if_neg (by rw [eq_of (by omega) (by omega)]; exact e), b_gR, if_pos K, qR47 L, b_gAI, if_pos (qK22 L), qN22 L, if_neg bv, clv, hfr v hv, hu, show oi (some u) = Int32.ofNat u from rfl, b_gI, if_pos K, g1, if_pos cu, b_gR, if_pos K, qR44 L, b_gI, if_pos K, g2, b_gI, if_pos K, g1, ec, b_gAI, if_pos (qK21 L), qN21 L, if_neg bw, clw, Y _ hcb nq, b_pAI, if_pos (qK21 L), qN21 L, if_neg bw, clw, ev, ← hX, b137]
theorem Enf_1 {ls cs q st : Nat} {out : Nat → Bool} {y : Nat → Int} {md : Bool} {fr : Nat → Option Nat} {ps : Nat → Nat} (T : Tr ls cs q out y md st fr ps) : ∀ (n v : Nat), v < ls + cs → Enf ls cs md 1 st fr y n v := by
  intro n
  induction n with
  | zero => intro v _; exact trivial
  | succ n ih =>
    intro v hv
    by_cases e : v = st
    · exact Or.inl e
    · refine Or.inr (fun u hu => ?_)
      obtain ⟨t1, t2, t3, t4⟩ := T.2.2 v hv e u hu
      unfold okF at t4
      rw [decide_eq_true_eq] at t4
      exact ⟨fun hh => by have := t4.2.2.2 hh; omega, ih u t1⟩
theorem Fs_mvR {ls cs i0 j0 n : Nat} {out : Nat → Bool} {x0 y : Nat → Int} {fr : Nat → Option Nat} {ps : Nat → Nat} (hi : i0 < ls) (hj : j0 < cs) (T : Tr ls cs (i0 * cs + j0) out y false (ls + j0) fr ps) (hgl : fr i0 ≠ none) (hn : ps i0 ≤ n) (F : Fs ls cs out x0 y) (hq : out (i0 * cs + j0) = true) : Fs ls cs out x0 (upA (chg ls cs false 1 (ls + j0) fr n i0 y) (i0 * cs + j0) 1) ∧ upA (chg ls cs false 1 (ls + j0) fr n i0 y) (i0 * cs + j0) 1 (i0 * cs + j0) = y (i0 * cs + j0) + 1 := by
  have nn := chg_nn (show (0 : Int) ≤ 1 by omega) T n i0 y (by omega) hgl hn (Enf_1 T n i0 (by omega)) F.1 (fun _ _ _ _ _ _ => rfl)
  have oo := chg_out T (a := 1) n i0 y (by omega) hgl
  have sums := chg_nS T (a := 1) n i0 y (by omega) hgl hn
  have eq := oo (i0 * cs + j0) (Or.inr (Or.inl rfl))
  have hc := cell_lt hi hj
  refine ⟨⟨fun c hc' => ?_, fun c hc' ho => ?_, fun x hx => ?_⟩, by unfold upA; rw [if_pos rfl, eq]⟩
  · unfold upA
    by_cases e : c = i0 * cs + j0
    · rw [if_pos e, e, eq]
      have := F.1 _ hc
      omega
    · rw [if_neg e]; exact nn c hc'
  · unfold upA
    rw [if_neg (fun e => by rw [e, hq] at ho; cases ho), oo c (Or.inl ho)]
    exact F.2.1 c hc' ho
  · rw [nS_up hi hj hx, sums x hx, F.2.2 x hx]
    have s1 : sg ls false 1 i0 = 1 := by
      unfold sg; rw [decide_eq_true hi, if_neg (by decide)]
    have s2 : sg ls false 1 (ls + j0) = -1 := by
      unfold sg; rw [decide_eq_false (show ¬ ls + j0 < ls by omega), if_pos rfl]
    rw [s1, s2]
    by_cases x1 : x = i0
    · rw [if_neg (show ¬ x = ls + j0 by omega), if_pos x1, if_pos (Or.inl x1)]; omega
    · by_cases x2 : x = ls + j0
      · rw [if_pos x2, if_neg x1, if_pos (Or.inr x2)]; omega
      · rw [if_neg x2, if_neg x1, if_neg (by omega)]; omega
theorem q_gol {m ls cs i0 j0 : Nat} {out : Int64} {x0 : Nat → Int} (md : Bool) (most : Nat) (hi : i0 < ls) (hj : j0 < cs) (hs : ∀ i : Nat, i < ls → nS ls cs x0 i ≤ 60) (h0 : ∀ c : Nat, c < ls * cs → 0 ≤ x0 c) (hq : bL out (i0 * cs + j0) = true) (hm1 : md = true → most = 60) (hm2 : md = false → x0 (i0 * cs + j0) = (most : Int)) : ∀ (mz sum fu : Nat) (h : MHp) (y : Nat → Int), Rc m ls cs h → Ry m ls cs (i0 * cs + j0) h y → Fs ls cs (bL out) x0 y → y (i0 * cs + j0) = (if md = true then x0 (i0 * cs + j0) + sum else x0 (i0 * cs + j0) - sum) → sum + mz = most → mz < fu → ∃ (h1 : MHp) (s : Nat), mX16_goes_l40 fu h m (Int32.ofNat (if md = true then ls + j0 else i0)) (Int32.ofNat (if md = true then i0 else ls + j0)) out (Int32.ofNat (i0 * cs + j0)) (Int32.ofNat most) (Int32.ofNat sum) = some (Int32.ofNat s, h1) ∧ Rq m h h1 ∧ Best ls cs (bL out) x0 (i0 * cs + j0) md (if md = true then x0 (i0 * cs + j0) + s else x0 (i0 * cs + j0) - s) := by
  intro mz
  have hc := cell_lt hi hj
  have F0 : Fs ls cs (bL out) x0 x0 := ⟨h0, fun _ _ _ => rfl, fun _ _ => rfl⟩
  have b60 := Fs_60 hs F0 _ hc
  have m60 : most ≤ 60 := by
    cases md with
    | true => rw [hm1 rfl]; exact Nat.le_refl _
    | false => have := hm2 rfl; omega
  induction mz with
  | zero =>
    intro sum fu h y G Y F hy hsm hf
    obtain ⟨fu, rfl⟩ : ∃ g : Nat, fu = g + 1 := ⟨fu - 1, by omega⟩
    refine ⟨h, sum, ?_, ⟨Rs.rf, rfl, rfl⟩, y, F, hy.symm, fun hm z hz => ?_, fun hm z hz => ?_⟩
    · rw [mX16_goes_l40, if_pos (by rw [le_of (by omega) (by omega)]; omega)]
    · subst hm
      have := hm1 rfl
      have z1 := Fs_60 hs hz _ hc
      have z2 := h0 _ hc
      rw [if_pos rfl]; omega
    · subst hm
      have := hm2 rfl
      have z1 := hz.1 _ hc
      rw [if_neg (by decide)]; omega
  | succ mz ih =>
    intro sum fu h y G Y F hy hsm hf
    obtain ⟨fu, rfl⟩ : ∃ g : Nat, fu = g + 1 := ⟨fu - 1, by omega⟩
    obtain ⟨L, g1, g2, g3, g4, g5⟩ := id G
    have K := qK0 L
    have B : ∀ cl : Nat, cl < ls * cs → 0 ≤ y cl ∧ y cl ≤ 60 := fun cl hcl => ⟨F.1 cl hcl, Fs_60 hs F cl hcl⟩
    have c0 : ¬ Int32.ofNat most ≤ Int32.ofNat sum := by rw [le_of (by omega) (by omega)]; omega
    obtain ⟨h1, fr, ps, e1, S1, r1, T, r2, r3⟩ := q_leads (st := if md = true then ls + j0 else i0) (gl := if md = true then i0 else ls + j0) (out := out) G Y B hc (by cases md <;> simp <;> omega) (by cases md <;> simp <;> omega)
    have G1 := G.sc S1.1 S1.2.1
    have Y1 := Y.f S1
    cases hfr : fr (if md = true then i0 else ls + j0) with
    | none =>
      have scl : ∀ u v : Nat, u < ls + cs → v < ls + cs → (fun v => decide (fr v ≠ none)) u = true → okF ls cs (i0 * cs + j0) (bL out) y false u v = true → (fun v => decide (fr v ≠ none)) v = true := fun u v hu hv su o => by
        have su' : decide (fr u ≠ none) = true := su
        rw [decide_eq_true_eq] at su'
        exact decide_eq_true (r3 u v hu hv su' o)
      refine ⟨h1, sum, ?_, S1.q, y, F, hy.symm, fun hm z hz => ?_, fun hm z hz => ?_⟩
      · rw [mX16_goes_l40, if_neg c0, b_rcv, if_pos K, e1, o_bind, if_pos hfr, if_pos rfl]
      · subst hm
        have h1 := opt_C (S := fun v => decide (fr v ≠ none)) hi hj F hz scl (decide_eq_false (fun h => h hfr)) (decide_eq_true (by have := T.2.1; rw [if_pos rfl] at this; rw [this]; exact Option.some_ne_none _))
        rw [if_pos rfl] at hy ⊢
        omega
      · subst hm
        have h1 := opt_B (S := fun v => decide (fr v ≠ none)) hi hj F hz scl (decide_eq_true (by have := T.2.1; rw [if_neg (by decide)] at this; rw [this]; exact Option.some_ne_none _)) (decide_eq_false (fun h => h hfr))
        rw [if_neg (by decide)] at hy ⊢
        omega
    | some w =>
      have hgl : fr (if md = true then i0 else ls + j0) ≠ none := by rw [hfr]; exact Option.some_ne_none _
      have hgN : (if md = true then i0 else ls + j0) < ls + cs := by cases md <;> simp <;> omega
      have hps := r2 _ hgN hgl
      obtain ⟨h2, e2, S2, Y2⟩ := q_mv T 20 (if md = true then i0 else ls + j0) FUEL h1 y G1 Y1 r1 hgN hgl (by omega) (by unfold FUEL; omega)
      have G2 := G1.sc S2.1 S2.2.1
      cases md with
      | true =>
        have T' : Tr ls cs (i0 * cs + j0) (bL out) y false (ls + j0) fr ps := T
        obtain ⟨F3, v3⟩ := Fs_mvR (n := 20) hi hj T' hgl (show ps i0 ≤ 20 from Nat.le_of_lt hps) F hq
        have Y3 : Ry m ls cs (i0 * cs + j0) h2 (upA (chg ls cs false 1 (ls + j0) fr 20 i0 y) (i0 * cs + j0) 1) := fun cl hcl hne => by
          unfold upA
          rw [if_neg hne]
          exact Y2 cl hcl hne
        obtain ⟨h3, s, e3, S3, Bs⟩ := ih (sum + 1) fu h2 _ G2 Y3 F3 (by rw [v3, hy, if_pos rfl, if_pos rfl]; omega) (by omega) (by omega)
        refine ⟨h3, s, ?_, (S1.q.tr S2.q).tr S3, Bs⟩
        rw [mX16_goes_l40, if_neg c0, b_rcv, if_pos K, e1, o_bind, if_neg hgl, if_neg n10, e2, s1_of, e3]
      | false =>
        have T' : Tr ls cs (i0 * cs + j0) (bL out) y false i0 fr ps := T
        have yq : (1 : Int) ≤ y (i0 * cs + j0) := by
          have := hm2 rfl
          rw [hy, if_neg (by decide)]; omega
        obtain ⟨F3, v3⟩ := Fs_mv (n := 20) (a := 1) hi hj T' hgl (show ps (ls + j0) ≤ 20 from Nat.le_of_lt hps) F hq (by omega) (Enf_1 T' 20 _ (by omega)) (fun _ => yq)
        rw [if_neg (by decide)] at F3 v3
        have Y3 : Ry m ls cs (i0 * cs + j0) h2 (upA (chg ls cs false 1 i0 fr 20 (ls + j0) y) (i0 * cs + j0) (-1)) := fun cl hcl hne => by
          unfold upA
          rw [if_neg hne]
          exact Y2 cl hcl hne
        obtain ⟨h3, s, e3, S3, Bs⟩ := ih (sum + 1) fu h2 _ G2 Y3 F3 (by rw [v3, hy, if_neg (by decide), if_neg (by decide)]; omega) (by omega) (by omega)
        refine ⟨h3, s, ?_, (S1.q.tr S2.q).tr S3, Bs⟩
        rw [mX16_goes_l40, if_neg c0, b_rcv, if_pos K, e1, o_bind, if_neg hgl, if_neg n10, e2, s1_of, e3]
theorem q_gcp {m ls cs q : Nat} {x0 : Nat → Int} {v1 v2 v5 v6 : Int32} {v3 : Int64} (hq : q < ls * cs) : ∀ (j k fu : Nat) (h : MHp), Rc m ls cs h → (∀ cl : Nat, cl < ls * cs → hAI h (m + 19) cl = Int32.ofInt (x0 cl)) → (∀ cl : Nat, cl < k → hAI h (m + 21) cl = Int32.ofInt (x0 cl)) → k + j = ls * cs → j < fu → ∃ h1 : MHp, mX16_goes_l3 fu h m v1 v2 v3 v5 v6 (Int32.ofNat k) = mX16_goes_l40 FUEL h1 m v1 v2 v3 v5 v6 0 ∧ Rq m h h1 ∧ Ry m ls cs q h1 x0 := by
  intro j
  induction j with
  | zero =>
    intro k fu h G hm hw hk hf
    obtain ⟨fu, rfl⟩ : ∃ g : Nat, fu = g + 1 := ⟨fu - 1, by omega⟩
    obtain ⟨L, g1, g2, g3, g4, g5⟩ := id G
    have K := qK0 L
    refine ⟨h, ?_, ⟨Rs.rf, rfl, rfl⟩, fun cl hcl _ => hw cl (by omega)⟩
    rw [mX16_goes_l3, b_gI, if_pos K, g1, b_gI, if_pos K, g2, ← Int32.ofNat_mul, if_pos (by rw [le_of (by omega) (by omega)]; omega)]
  | succ j ih =>
    intro k fu h G hm hw hk hf
    obtain ⟨fu, rfl⟩ : ∃ g : Nat, fu = g + 1 := ⟨fu - 1, by omega⟩
    obtain ⟨L, g1, g2, g3, g4, g5⟩ := id G
    have K := qK0 L
    have bk := bad_n (k := k) (n := 100) (by omega) (by omega)
    have clk : (Int32.ofNat k).toNatClampNeg = k := cl_of (by omega)
    obtain ⟨X, hX⟩ : ∃ X : MHp, X = sAI h (m + 21) (va_up (hAI h (m + 21)) k (Int32.ofInt (x0 k))) := ⟨_, rfl⟩
    have SX : Rq m h X := ⟨by rw [hX]; exact Rs.AI 21 _ (by decide), by rw [hX]; rfl, by rw [hX, e_sAI, if_neg (by omega)]⟩
    obtain ⟨h1, e1, S1, Y1⟩ := ih (k + 1) fu X (G.sc SX.1 SX.2.1) (fun cl hcl => by rw [SX.2.2]; exact hm cl hcl) (fun cl hcl => by
      rw [hX, e_sAI, if_pos rfl, e_up]
      by_cases e : cl = k
      · rw [if_pos e, e]
      · rw [if_neg e]; exact hw cl (by omega)) (by omega) (by omega)
    refine ⟨h1, ?_, SX.tr S1, Y1⟩
    rw [mX16_goes_l3, b_gI, if_pos K, g1, b_gI, if_pos K, g2, ← Int32.ofNat_mul, if_neg (by rw [le_of (by omega) (by omega)]; omega), b_gR, if_pos K, qR44 L, b_gR, if_pos K, qR42 L, b_gAI, if_pos (qK19 L), qN19 L, if_neg bk, clk, hm k (by omega), b_pAI, if_pos (qK21 L), qN21 L, if_neg bk, clk, ← hX, s1_of, e1]
theorem q_highOf {m ls cs i0 j0 : Nat} {out : Int64} {x0 : Nat → Int} {h : MHp} (G : Rc m ls cs h) (hi : i0 < ls) (hj : j0 < cs) (hm : ∀ cl : Nat, cl < ls * cs → hAI h (m + 19) cl = Int32.ofInt (x0 cl)) (h0 : ∀ c : Nat, c < ls * cs → 0 ≤ x0 c) (hs : ∀ i : Nat, i < ls → nS ls cs x0 i ≤ 60) (hq : bL out (i0 * cs + j0) = true) : ∃ (h1 : MHp) (v : Int), mX16_highOf h m out (Int32.ofNat (i0 * cs + j0)) = some (Int32.ofInt v, h1) ∧ Rq m h h1 ∧ Best ls cs (bL out) x0 (i0 * cs + j0) true v := by
  obtain ⟨L, g1, g2, g3, g4, g5⟩ := id G
  have K := qK0 L
  have hc := cell_lt hi hj
  have z : ¬ Int32.ofNat cs = 0 := by rw [show (0 : Int32) = Int32.ofNat 0 from rfl, eq_of (by omega) (by omega)]; omega
  have d1 : (i0 * cs + j0) / cs = i0 := by rw [Nat.mul_comm, Nat.mul_add_div (by omega), Nat.div_eq_of_lt hj, Nat.add_zero]
  have d2 : (i0 * cs + j0) % cs = j0 := by rw [Nat.mul_comm, Nat.mul_add_mod, Nat.mod_eq_of_lt hj]
  have bw := bad_n (k := i0 * cs + j0) (n := 100) (by omega) (by omega)
  have clw : (Int32.ofNat (i0 * cs + j0)).toNatClampNeg = i0 * cs + j0 := cl_of (by omega)
  obtain ⟨h1, e1, S1, Y1⟩ := q_gcp (v1 := Int32.ofNat (ls + j0)) (v2 := Int32.ofNat i0) (v3 := out) (v5 := Int32.ofNat (i0 * cs + j0)) (v6 := 60) hc (ls * cs) 0 FUEL h G hm (fun cl hcl => by omega) (by omega) (by unfold FUEL; omega)
  have F0 : Fs ls cs (bL out) x0 x0 := ⟨h0, fun _ _ _ => rfl, fun _ _ => rfl⟩
  obtain ⟨h2, s, e2, S2, Bs⟩ := q_gol true 60 hi hj hs h0 hq (fun _ => rfl) (fun h => by cases h) 60 0 FUEL h1 x0 (G.sc S1.1 S1.2.1) Y1 F0 (by rw [if_pos rfl]; omega) (by omega) (by unfold FUEL; omega)
  rw [if_pos rfl] at Bs
  have e1' : mX16_goes_l3 FUEL h m (Int32.ofNat (ls + j0)) (Int32.ofNat i0) out (Int32.ofNat (i0 * cs + j0)) 60 0 = _ := e1
  have e2' : mX16_goes_l40 FUEL h1 m (Int32.ofNat (ls + j0)) (Int32.ofNat i0) out (Int32.ofNat (i0 * cs + j0)) 60 0 = _ := e2
  refine ⟨h2, x0 (i0 * cs + j0) + s, ?_, S1.tr S2, Bs⟩
  rw [mX16_highOf, b_gR, if_pos K, qR42 L, b_gAI, if_pos (qK19 L), qN19 L, if_neg bw, clw, hm _ hc, b_gI, if_pos K, g1, b_gI, if_pos K, g2, nz, if_neg z, o_bind, b_gI, if_pos K, g2, nz, if_neg z, o_bind, b_rcv, if_pos K, md_of (by omega) (by omega), dv_of (by omega) (by omega), d1, d2, ← Int32.ofNat_add, mX16_goes, e1', e2', o_bind, ← oI_n, ← Int32.ofInt_add]
theorem q_lowOf {m ls cs i0 j0 : Nat} {out : Int64} {x0 : Nat → Int} {h : MHp} (G : Rc m ls cs h) (hi : i0 < ls) (hj : j0 < cs) (hm : ∀ cl : Nat, cl < ls * cs → hAI h (m + 19) cl = Int32.ofInt (x0 cl)) (h0 : ∀ c : Nat, c < ls * cs → 0 ≤ x0 c) (hs : ∀ i : Nat, i < ls → nS ls cs x0 i ≤ 60) (hq : bL out (i0 * cs + j0) = true) : ∃ (h1 : MHp) (v : Int), mX16_lowOf h m out (Int32.ofNat (i0 * cs + j0)) = some (Int32.ofInt v, h1) ∧ Rq m h h1 ∧ Best ls cs (bL out) x0 (i0 * cs + j0) false v := by
  obtain ⟨L, g1, g2, g3, g4, g5⟩ := id G
  have K := qK0 L
  have hc := cell_lt hi hj
  have z : ¬ Int32.ofNat cs = 0 := by rw [show (0 : Int32) = Int32.ofNat 0 from rfl, eq_of (by omega) (by omega)]; omega
  have d1 : (i0 * cs + j0) / cs = i0 := by rw [Nat.mul_comm, Nat.mul_add_div (by omega), Nat.div_eq_of_lt hj, Nat.add_zero]
  have d2 : (i0 * cs + j0) % cs = j0 := by rw [Nat.mul_comm, Nat.mul_add_mod, Nat.mod_eq_of_lt hj]
  have bw := bad_n (k := i0 * cs + j0) (n := 100) (by omega) (by omega)
  have clw : (Int32.ofNat (i0 * cs + j0)).toNatClampNeg = i0 * cs + j0 := cl_of (by omega)
  have F0 : Fs ls cs (bL out) x0 x0 := ⟨h0, fun _ _ _ => rfl, fun _ _ => rfl⟩
  have b60 := Fs_60 hs F0 _ hc
  have b0 := h0 _ hc
  obtain ⟨k, hk⟩ : ∃ k : Nat, x0 (i0 * cs + j0) = (k : Int) := ⟨(x0 (i0 * cs + j0)).toNat, by omega⟩
  obtain ⟨h1, e1, S1, Y1⟩ := q_gcp (v1 := Int32.ofNat i0) (v2 := Int32.ofNat (ls + j0)) (v3 := out) (v5 := Int32.ofNat (i0 * cs + j0)) (v6 := Int32.ofNat k) hc (ls * cs) 0 FUEL h G hm (fun cl hcl => by omega) (by omega) (by unfold FUEL; omega)
  obtain ⟨h2, s, e2, S2, Bs⟩ := q_gol false k hi hj hs h0 hq (fun h => by cases h) (fun _ => hk) k 0 FUEL h1 x0 (G.sc S1.1 S1.2.1) Y1 F0 (by rw [if_neg (by decide)]; omega) (by omega) (by unfold FUEL; omega)
  rw [if_neg (by decide)] at Bs
  have e1' : mX16_goes_l3 FUEL h m (Int32.ofNat i0) (Int32.ofNat (ls + j0)) out (Int32.ofNat (i0 * cs + j0)) (Int32.ofNat k) 0 = _ := e1
  have e2' : mX16_goes_l40 FUEL h1 m (Int32.ofNat i0) (Int32.ofNat (ls + j0)) out (Int32.ofNat (i0 * cs + j0)) (Int32.ofNat k) 0 = _ := e2
  refine ⟨h2, x0 (i0 * cs + j0) - s, ?_, S1.tr S2, Bs⟩
  have es : Int32.ofInt (x0 (i0 * cs + j0)) - Int32.ofNat s = Int32.ofInt (x0 (i0 * cs + j0) - s) := by
    rw [Int32.sub_eq_add_neg, ← oI_n s, Int32.neg_ofInt, ← Int32.ofInt_add]; rfl
  rw [mX16_lowOf, b_gR, if_pos K, qR42 L, b_gAI, if_pos (qK19 L), qN19 L, if_neg bw, clw, hm _ hc, b_gI, if_pos K, g2, nz, if_neg z, o_bind, b_gI, if_pos K, g1, b_gI, if_pos K, g2, nz, if_neg z, o_bind, b_gR, if_pos K, qR42 L, b_gAI, if_pos (qK19 L), qN19 L, if_neg bw, clw, hm _ hc, b_rcv, if_pos K, md_of (by omega) (by omega), dv_of (by omega) (by omega), d1, d2, ← Int32.ofNat_add, mX16_goes]
  have ek : Int32.ofInt (x0 (i0 * cs + j0)) = Int32.ofNat k := by rw [hk, oI_n]
  rw [ek, e1', e2', o_bind, ← ek, es]

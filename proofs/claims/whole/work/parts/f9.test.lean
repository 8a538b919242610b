/-! reading a test: both sides -/
def nxt (g : Nat → Int32) (n : Nat) (t : Tok) : Tok := tokAt g n (kE t)
theorem PC.st {c n : Nat} {g : Nat → Int32} {t : Tok} {h : MHp} (P : PC c g n t h) (k : kK t ≠ 4) : ∃ h1 : MHp, mX8_step h (c + 55) = some h1 ∧ Sp c h h1 ∧ PC c g n (nxt g n t) h1 ∧ GT g n (nxt g n t) := by
  obtain ⟨h1, e1, S1, P1⟩ := p_step P.1 (P.2.2.2.2.1 k) P.2.1
  exact ⟨h1, e1, S1, P1, kE t, P.2.1, rfl⟩
theorem PR.st {m n : Nat} {g : Nat → Int32} {t : Tok} {h : MHp} (hb : ∀ k : Nat, (g k).toInt8.toInt32 = g k) (P : PR m g n t h) (k : kK t ≠ 4) : ∃ h1 : MHp, mX16_next h m = some h1 ∧ Sn m h h1 ∧ PR m g n (nxt g n t) h1 := q_next hb P.1 (P.2.2.2.2.1 k) P.2.1
def Kt (c bo u : Nat) (g : Nat → Int32) (n : Nat) (B : Bk) (T : Ts) (t : Tok) (h : MHp) : Prop := PC c g n t h ∧ NB c bo B h ∧ IsT h u ∧ CT h u T
def Qt (m b u : Nat) (g : Nat → Int32) (n : Nat) (B : Bk) (T : Ts) (t : Tok) (h : MHp) : Prop := PR m g n t h ∧ NR2 b B h ∧ RT h u T ∧ u + 5 ≤ hS h ∧ ∀ j : Nat, tn T ≤ j → hAI h (u + 4) j = 0
/-- where a test may lie -/
def Du (c bo u : Nat) : Prop := (c + 55 < u ∨ (c + 1 < u ∧ u + 4 ≤ c + 55)) ∧ (bo + 1 < u ∨ u + 4 ≤ bo) ∧ bo ≠ c + 55 ∧ bo + 1 ≠ c + 55
theorem Kt.sp {c bo u n : Nat} {g : Nat → Int32} {B : Bk} {T : Ts} {t t' : Tok} {h h' : MHp} (D : Du c bo u) (K : Kt c bo u g n B T t h) (S : Sp c h h') (P : PC c g n t' h') : Kt c bo u g n B T t' h' := by
  obtain ⟨k1, k2, k3, k4⟩ := K
  have F : FT c u h h' := S.ft
  exact ⟨P, F.NB k2 D.2.1 D.2.2, F.IsT k3, S.CT (by have := D.1; omega) k4⟩
theorem NR2.fq {m b u : Nat} {B : Bk} {h h' : MHp} (F : FQ m u h h') (d : m + 26 ≤ b) (d2 : b + 5 ≤ u) (d3 : u ≤ hS h) (N : NR2 b B h) : NR2 b B h' := by
  obtain ⟨⟨i1, i2, i3, i4, i5, i6, i7, i8, i9, i10, i11, i12, i13⟩, n2, n3⟩ := N
  obtain ⟨F1, F2, F3⟩ := F
  have a := fun k (hk : k < 5) => F2 (b + k) (by omega)
  obtain ⟨x1, x2, x3, x4, x5⟩ := F2 b (by omega)
  obtain ⟨y1, y2, y3, y4, y5⟩ := F2 (b + 1) (by omega)
  obtain ⟨z1, z2, z3, z4, z5⟩ := F2 (b + 2) (by omega)
  obtain ⟨v1, v2, v3, v4, v5⟩ := F2 (b + 3) (by omega)
  obtain ⟨w1, w2, w3, w4, w5⟩ := F2 (b + 4) (by omega)
  refine ⟨⟨by rw [x1]; exact i1, by rw [x3]; exact i2, by rw [x3]; exact i3, by rw [x3]; exact i4, by rw [x3]; exact i5, by rw [y1]; exact i6, by rw [z1]; exact i7, by rw [v1]; exact i8, by rw [w1]; exact i9, by rw [y2]; exact i10, by rw [z2]; exact i11, by rw [v2]; exact i12, by rw [w2]; exact i13⟩, ?_, fun f hf => ?_⟩
  · rw [((x5 (Or.inl (by omega))).2.2 (by omega) (by omega)).1]; exact n2
  · rw [(y5 (Or.inl (by omega))).2.1]; exact n3 f hf
theorem dF_n {g : Nat → Int32} : ∀ (q s a : Nat), (∀ k : Nat, s ≤ k → k < s + q → pDi (g k) = true) → q ≤ 4 → a < 10 ^ (4 - q) → ∃ v : Nat, v < 10000 ∧ dF g q s (Int32.ofNat a) = Int32.ofNat v
  | 0, s, a, _, _, ha => ⟨a, ha, rfl⟩
  | q + 1, s, a, h, hq, ha => by
    have d := h s (Nat.le_refl _) (by omega)
    unfold pDi at d
    rw [Bool.and_eq_true, decide_eq_true_eq, decide_eq_true_eq] at d
    have h0 : ¬ g s < 0 := fun hh => by
      have := Int32.lt_of_le_of_lt d.1 hh
      exact absurd this (by decide)
    obtain ⟨b, eb, hb⟩ := ex_of h0
    rw [eb, show (48 : Int32) = Int32.ofNat 48 from rfl, show (57 : Int32) = Int32.ofNat 57 from rfl, le_of (by omega) hb, le_of hb (by omega)] at d
    have p1 : 10 ^ (4 - q) = 10 ^ (4 - (q + 1)) * 10 := by
      rw [show 4 - q = (4 - (q + 1)) + 1 by omega, Nat.pow_succ]
    have st : ((Int32.ofNat a * 10) + g s) - 48 = Int32.ofNat (a * 10 + (b - 48)) := by
      rw [eb, show (10 : Int32) = Int32.ofNat 10 from rfl, ← Int32.ofNat_mul, ← Int32.ofNat_add, show (48 : Int32) = Int32.ofNat 48 from rfl, sub_of (by omega), show a * 10 + b - 48 = a * 10 + (b - 48) by omega]
    show ∃ v : Nat, v < 10000 ∧ dF g q (s + 1) (((Int32.ofNat a * 10) + g s) - 48) = Int32.ofNat v
    rw [st]
    exact dF_n q (s + 1) _ (fun k h1 h2 => h k (by omega) (by omega)) (by omega) (by rw [p1]; omega)
theorem tk_n {g : Nat → Int32} {n : Nat} {t : Tok} (G : GT g n t) (h : kK t = 2) : ∃ v : Nat, v < 10000 ∧ kV t = Int32.ofNat v := by
  obtain ⟨p, hp, rfl⟩ := G
  obtain ⟨s, hs⟩ : ∃ s : Nat, s = run pSp g n p := ⟨_, rfl⟩
  have sb := run_b (P := pSp) (g := g) hp
  rw [← hs] at sb
  have et : tokAt g n p = tkOf g n s := by unfold tokAt; rw [← hs]
  rw [et] at h ⊢
  unfold tkOf at h ⊢
  by_cases L0 : s < run pLe g n s
  · rw [if_pos L0] at h
    by_cases L8 : run pLe g n s - s ≤ 8
    · rw [if_pos L8] at h; exact absurd (show (1 : Nat) = 2 from h) (by decide)
    · rw [if_neg L8] at h; exact absurd (show (4 : Nat) = 2 from h) (by decide)
  · rw [if_neg L0] at h ⊢
    by_cases D0 : s < run pDi g n s
    · rw [if_pos D0] at h ⊢
      by_cases D4 : run pDi g n s - s ≤ 4
      · rw [if_pos D4]
        exact dF_n _ s 0 (fun k h1 h2 => run_in (n := n) (n - s) s (by omega) k h1 (by omega)) D4 (Nat.pow_pos (by omega))
      · rw [if_neg D4] at h; exact absurd (show (4 : Nat) = 2 from h) (by decide)
    · rw [if_neg D0] at h
      by_cases z : s < n
      · rw [if_pos z] at h
        by_cases q : pSg (g s) = true
        · rw [if_pos q] at h; exact absurd (show (3 : Nat) = 2 from h) (by decide)
        · rw [if_neg q] at h; exact absurd (show (4 : Nat) = 2 from h) (by decide)
      · rw [if_neg z] at h; exact absurd (show (0 : Nat) = 2 from h) (by decide)
theorem Qt.sn {m b u n : Nat} {g : Nat → Int32} {B : Bk} {T : Ts} {t t' : Tok} {h h' : MHp} (d : m + 26 ≤ b) (d2 : b + 5 ≤ u) (Q : Qt m b u g n B T t h) (S : Sn m h h') (P : PR m g n t' h') : Qt m b u g n B T t' h' := by
  obtain ⟨q1, q2, q3, q4, q5⟩ := Q
  have F : FQ m u h h' := S.fq
  obtain ⟨a1, a2, a3, a4, a5, a6, a7, a8, a9⟩ := S
  obtain ⟨⟨i1, i2, i3, i4, i5, i6, i7, i8, i9, i10, i11, i12, i13⟩, r2, r3⟩ := q3
  refine ⟨P, q2.fq F d d2 (by omega), ⟨⟨by rw [a1]; exact i1, by rw [a3]; exact i2, by rw [a3]; exact i3, by rw [a3]; exact i4, by rw [a3]; exact i5, by rw [a1]; exact i6, by rw [a1]; exact i7, by rw [a1]; exact i8, by rw [a1]; exact i9, by rw [a2]; exact i10, by rw [a2]; exact i11, by rw [a2]; exact i12, by rw [a2]; exact i13⟩, by rw [(a8 u (by omega)).1]; exact r2, fun j hj => by rw [a5]; exact r3 j hj⟩, by rw [a7]; exact q4, fun j hj => by rw [a5]; exact q5 j hj⟩
/-- a cell behind the last ONE is written -/
theorem Qt.put {m b u n k : Nat} {g : Nat → Int32} {B : Bk} {T : Ts} {t : Tok} {h : MHp} (v : Int32) (d : m + 26 ≤ b) (d2 : b + 5 ≤ u) (hk : k = 1 ∨ k = 2 ∨ k = 3) (Q : Qt m b u g n B T t h) : Qt m b u g n B T t (sAI h (u + k) (va_up (hAI h (u + k)) (tn T) v)) := by
  obtain ⟨q1, q2, q3, q4, q5⟩ := Q
  have F : FQ m u h (sAI h (u + k) (va_up (hAI h (u + k)) (tn T) v)) := FQ.AI k _ (by omega)
  obtain ⟨i, r2, r3⟩ := q3
  obtain ⟨⟨p1, p2, p3, p4⟩, p5⟩ := q1
  refine ⟨⟨⟨p1, by rw [e_sAI, if_neg (by omega)]; exact p2, p3, p4⟩, p5⟩, q2.fq F d d2 (by omega), ⟨i, r2, fun j hj => ?_⟩, q4, fun j hj => ?_⟩
  · have key : ∀ x : Nat, hAI (sAI h (u + k) (va_up (hAI h (u + k)) (tn T) v)) (u + x) j = hAI h (u + x) j := fun x => by
      rw [e_sAI]
      by_cases e : u + x = u + k
      · rw [if_pos e, e_up, if_neg (by omega), ← e]
      · rw [if_neg e]
    rw [key 1, key 2, key 3, key 4]
    exact r3 j hj
  · rw [e_sAI, if_neg (by omega)]
    exact q5 j hj
theorem RT.cnt {u f : Nat} {s r : Int32} {T : Ts} {h : MHp} (R : RT h u T) (c1 : hAI h (u + 1) (tn T) = Int32.ofNat f) (c2 : hAI h (u + 2) (tn T) = s) (c3 : r < 0 → hAI h (u + 4) (tn T) = 1 ∧ hAI h (u + 3) (tn T) = (-1) - r) (c4 : ¬ r < 0 → hAI h (u + 4) (tn T) = 0 ∧ hAI h (u + 3) (tn T) = r) : RT (sI h u 0 (Int32.ofNat (tn T + 1))) u (addT T f s r) := by
  obtain ⟨i, r2, r3⟩ := R
  refine ⟨i, by rw [e_Iself, addT_n], fun j hj => ?_⟩
  rw [addT_n] at hj
  rw [addT_F, addT_S, addT_R, e_AI_sI]
  by_cases q : j = tn T
  · subst q
    rw [if_pos rfl, if_pos rfl, if_pos rfl]
    exact ⟨c1, c2, c3, c4⟩
  · rw [if_neg q, if_neg q, if_neg q]
    exact r3 j (by omega)
theorem WT.add {nf f : Nat} {s r : Int32} {T : Ts} (W : WT nf T) (hn : tn T < 12) (hf : f < nf) (hr : okR nf r) (h6 : nf ≤ 6) : WT nf (addT T f s r) := by
  refine ⟨by rw [addT_n]; omega, fun j hj => ?_⟩
  rw [addT_n] at hj
  rw [addT_F, addT_R]
  by_cases q : j = tn T
  · rw [if_pos q, if_pos q]
    refine ⟨hf, fun hlt => ?_⟩
    rcases hr with hr | hr
    · exact absurd hlt (Int32.not_lt.mpr hr)
    · exact hr
  · rw [if_neg q, if_neg q]
    exact W.2 j (by omega)
/-- the second thing that stands at a token: a fault, or a thing -/
def thF (B : Bk) (t : Tok) : Int32 := if kK t = 2 then (if kV t ≤ 99 then 0 else 4) else kf B t
def thR (B : Bk) (t : Tok) : Int32 := if kK t = 2 then kV t else (-1) - Int32.ofNat (fN B (kL t))
theorem thR_ok {g : Nat → Int32} {n : Nat} {B : Bk} {t : Tok} (G : GT g n t) (h : thF B t = 0) : okR (bF B) (thR B t) := by
  unfold thF at h
  unfold thR
  by_cases e : kK t = 2
  · rw [if_pos e]
    obtain ⟨v, hv, ev⟩ := tk_n G e
    rw [ev]
    exact Or.inl (ge_0 (by omega))
  · rw [if_neg e] at h ⊢
    unfold kf at h
    by_cases e2 : isN t = true
    · rw [if_pos e2] at h
      by_cases e3 : fN B (kL t) < bF B
      · exact Or.inr ⟨_, e3, rfl⟩
      · rw [if_neg e3] at h; exact absurd h n20
    · rw [if_neg e2] at h; exact absurd h n10
theorem kf_0 {B : Bk} {t : Tok} (h : kf B t = 0) : isN t = true ∧ fN B (kL t) < bF B := by
  unfold kf at h
  by_cases e2 : isN t = true
  · rw [if_pos e2] at h
    by_cases e3 : fN B (kL t) < bF B
    · exact ⟨e2, e3⟩
    · rw [if_neg e3] at h; exact absurd h n20
  · rw [if_neg e2] at h; exact absurd h n10
theorem thF_4 {B : Bk} {t : Tok} (h : thF B t = 0) : kK t ≠ 4 := by
  unfold thF at h
  by_cases e : kK t = 2
  · omega
  · rw [if_neg e] at h
    have := isN_1 (kf_0 h).1
    omega
/-- a ONE's sign -/
def sg3 (t : Tok) : Bool := decide (kK t = 3) && (decide (kV t = 61) || (decide (kV t = 60) || decide (kV t = 62)))
/-- how reading one ONE ends: a fault at a token, or the ONE and the token behind it -/
def oF (g : Nat → Int32) (n : Nat) (B : Bk) (T : Ts) (t : Tok) : Int32 := if kf B t = 0 then (if tn T < 12 then (if sg3 (nxt g n t) = true then thF B (nxt g n (nxt g n t)) else 1) else 5) else kf B t
def oT (g : Nat → Int32) (n : Nat) (B : Bk) (T : Ts) (t : Tok) : Tok := if kf B t = 0 then (if tn T < 12 then (if sg3 (nxt g n t) = true then nxt g n (nxt g n t) else nxt g n t) else t) else t
def oN (g : Nat → Int32) (n : Nat) (B : Bk) (T : Ts) (t : Tok) : Ts := addT T (fN B (kL t)) (kV (nxt g n t)) (thR B (nxt g n (nxt g n t)))
def CFl (c u : Nat) (h : MHp) (F : Option (Int32 × MHp)) (f : Int32) (t : Tok) : Prop := ∃ h' : MHp, F = some (0, h') ∧ FT c u h h' ∧ hI h' (c + 55) 1 = f ∧ hI h' (c + 55) 2 = Int32.ofNat (kS t)
theorem CFl.at {c u n : Nat} {g : Nat → Int32} {t : Tok} {h h1 : MHp} {F : Option (Int32 × MHp)} (f : Int32) (Fx : FT c u h h1) (P : PC c g n t h1) (e : F = some (0, sI h1 (c + 55) 1 f)) : CFl c u h F f t :=
  ⟨_, e, Fx.tr (FT.I1 f), e_Iself _ _ _ _, by rw [e_sI, if_neg (by omega)]; exact P.2.2.1⟩
theorem sg3_4 {t : Tok} (h : sg3 t = true) : kK t = 3 := by
  unfold sg3 at h
  rw [Bool.and_eq_true, decide_eq_true_eq] at h
  exact h.1
theorem ite01 {p : Prop} [Decidable p] {α : Type} (X Y : α) : (if (if p then (1 : Int32) else 0) = 0 then X else Y) = if p then Y else X := by
  by_cases h : p
  · rw [if_pos h, if_neg n10, if_pos h]
  · rw [if_neg h, if_pos rfl, if_neg h]
theorem p_readOne {c bo u n : Nat} {g : Nat → Int32} {B : Bk} {T : Ts} {t : Tok} {h : MHp} (D : Du c bo u) (W : NW B) (WT0 : WT (bF B) T) (G : GT g n t) (K : Kt c bo u g n B T t h) : (oF g n B T t ≠ 0 ∧ CFl c u h (mX8_readOne h (c + 55) (some u)) (oF g n B T t) (oT g n B T t)) ∨ oF g n B T t = 0 ∧ ∃ h' : MHp, mX8_readOne h (c + 55) (some u) = some (1, h') ∧ FT c u h h' ∧ hI h' (c + 55) 1 = hI h (c + 55) 1 ∧ Kt c bo u g n B (oN g n B T t) (nxt g n (oT g n B T t)) h' ∧ GT g n (nxt g n (oT g n B T t)) := by
  have w6 := W.1
  have w12 := WT0.1
  obtain ⟨P, N, I, C⟩ := id K
  have L := P.1.1
  have K55 := lK55 L
  have ek := p_known P G N W
  by_cases a1 : kf B t = 0
  · rw [if_pos a1] at ek
    obtain ⟨iN, fl⟩ := kf_0 a1
    have k1 := isN_1 iN
    by_cases a2 : tn T < 12
    · have ef : mX10_isFull h u = some 0 := by
        rw [mX10_isFull, b_gI, if_pos I.1, C.1, if_pos (by rw [show (12 : Int32) = Int32.ofNat 12 from rfl, lt_of' (by omega) (by omega)]; exact a2)]
      obtain ⟨h1, e1, S1, P1, G1⟩ := P.st (by omega)
      have K1 := K.sp D S1 P1
      have K551 := lK55 P1.1.1
      have base : mX8_readOne h (c + 55) (some u) = if sg3 (nxt g n t) = true then mX8_readOne_b62 h1 (c + 55) (some u) (Int32.ofNat (fN B (kL t))) else some (0, sI h1 (c + 55) 1 1) := by
        have fl1 : ((mX8_fail h1 (c + 55) 1).bind fun r29 => (rB r29.1).bind fun _ => some (r29.1, r29.2)) = some (0, sI h1 (c + 55) 1 1) := by
          rw [mX8_fail, b_pI, if_pos K551, o_bind, rB0, o_bind]
        rw [mX8_readOne, b_rcv, if_pos K55, ek, o_bind, if_neg (nm_of (by omega)), b_rcv, if_pos I.1, ef, o_bind, if_pos rfl, b_rcv, if_pos K55, e1, o_bind, b_rcv, if_pos K551, p_isSign P1 G1, o_bind, b_rcv, if_pos K551, p_isSign P1 G1, o_bind, b_rcv, if_pos K551, p_isSign P1 G1, o_bind, b_rcv, if_pos K551, fl1]
        rw [ite01, ite01, ite01]
        unfold sg3
        by_cases q : kK (nxt g n t) = 3
        · rw [decide_eq_true q, Bool.true_and]
          by_cases q1 : kV (nxt g n t) = 61
          · rw [if_pos ⟨q, q1⟩, if_pos (by rw [decide_eq_true q1]; rfl)]
          · rw [if_neg (fun hh : kK (nxt g n t) = 3 ∧ kV (nxt g n t) = 61 => q1 hh.2)]
            by_cases q2 : kV (nxt g n t) = 60
            · rw [if_pos ⟨q, q2⟩, if_pos (by rw [decide_eq_true q2, Bool.true_or, Bool.or_true])]
            · rw [if_neg (fun hh : kK (nxt g n t) = 3 ∧ kV (nxt g n t) = 60 => q2 hh.2)]
              by_cases q3 : kV (nxt g n t) = 62
              · rw [if_pos ⟨q, q3⟩, if_pos (by rw [decide_eq_true q3, Bool.or_true, Bool.or_true])]
              · rw [if_neg (fun hh : kK (nxt g n t) = 3 ∧ kV (nxt g n t) = 62 => q3 hh.2), if_neg (by rw [decide_eq_false q1, decide_eq_false q2, decide_eq_false q3]; decide)]
        · rw [if_neg (fun hh : kK (nxt g n t) = 3 ∧ kV (nxt g n t) = 61 => q hh.1), if_neg (fun hh : kK (nxt g n t) = 3 ∧ kV (nxt g n t) = 60 => q hh.1), if_neg (fun hh : kK (nxt g n t) = 3 ∧ kV (nxt g n t) = 62 => q hh.1), if_neg (by rw [decide_eq_false q, Bool.false_and]; decide)]
      by_cases a3 : sg3 (nxt g n t) = true
      · rw [if_pos a3] at base
        have k3 := sg3_4 a3
        obtain ⟨h2, e2, S2, P2, G2⟩ := P1.st (by omega)
        have K2 := K1.sp D S2 P2
        have K552 := lK55 P2.1.1
        have k5 := kK_5 G2
        have x5 : hI h1 (c + 55) 6 = kV (nxt g n t) := P1.2.2.2.2.2.1 (Or.inr k3)
        have oFe : oF g n B T t = thF B (nxt g n (nxt g n t)) := by unfold oF; rw [if_pos a1, if_pos a2, if_pos a3]
        have oTe : oT g n B T t = nxt g n (nxt g n t) := by unfold oT; rw [if_pos a1, if_pos a2, if_pos a3]
        rw [oFe, oTe]
        have kd : (Int32.ofNat (kK (nxt g n (nxt g n t))) = 2) = (kK (nxt g n (nxt g n t)) = 2) := by
          rw [show (2 : Int32) = Int32.ofNat 2 from rfl, kd_c k5 (by omega)]
        have b62 : mX8_readOne_b62 h1 (c + 55) (some u) (Int32.ofNat (fN B (kL t))) = if thF B (nxt g n (nxt g n t)) = 0 then mX8_readOne_b121 h2 (c + 55) (some u) (Int32.ofNat (fN B (kL t))) (kV (nxt g n t)) (thR B (nxt g n (nxt g n t))) else some (0, sI h2 (c + 55) 1 (thF B (nxt g n (nxt g n t)))) := by
          unfold thF thR
          by_cases q : kK (nxt g n (nxt g n t)) = 2
          · have x8 : hI h2 (c + 55) 6 = kV (nxt g n (nxt g n t)) := P2.2.2.2.2.2.1 (Or.inl q)
            rw [if_pos q, if_pos q, mX8_readOne_b62, b_gI, if_pos K551, x5, b_rcv, if_pos K551, e2, o_bind, b_gI, if_pos K552, x8, b_gI, if_pos K552, P2.2.2.2.1, if_pos (by rw [kd]; exact q)]
            by_cases q2 : kV (nxt g n (nxt g n t)) ≤ 99
            · rw [if_pos q2, if_pos q2, if_pos rfl]
            · rw [if_neg q2, if_neg q2, if_neg n40, b_rcv, if_pos K552, mX8_fail, b_pI, if_pos K552, o_bind, rB0, o_bind]
          · have ek2 := p_known P2 G2 K2.2.1 W
            have le := fN_le B (kL (nxt g n (nxt g n t)))
            rw [if_neg q, if_neg q, mX8_readOne_b62, b_gI, if_pos K551, x5, b_rcv, if_pos K551, e2, o_bind, b_gI, if_pos K552, b_gI, if_pos K552, P2.2.2.2.1, if_neg (by rw [kd]; exact q), b_rcv, if_pos K552, ek2]
            by_cases q2 : kf B (nxt g n (nxt g n t)) = 0
            · rw [if_pos q2, if_pos q2, o_bind, if_neg (nm_of (by omega))]
            · rw [if_neg q2, if_neg q2, o_bind, if_pos rfl]
        by_cases a4 : thF B (nxt g n (nxt g n t)) = 0
        · rw [if_pos a4] at b62
          right
          obtain ⟨h3, e3, C3, F3⟩ := p_addT (s := kV (nxt g n t)) K2.2.2.1 K2.2.2.2 a2 fl w6 (thR_ok G2 a4)
          have FT3 : FT c u h2 h3 := F3.ft (by have := D.1; omega)
          have P3 : PC c g n (nxt g n (nxt g n t)) h3 := F3.PC D.1 P2
          obtain ⟨h4, e4, S4, P4, G4⟩ := P3.st (thF_4 a4)
          have K3 : Kt c bo u g n B (oN g n B T t) (nxt g n (nxt g n t)) h3 := ⟨P3, FT3.NB K2.2.1 D.2.1 D.2.2, F3.IsT K2.2.2.1, C3⟩
          refine ⟨a4, h4, ?_, ((S1.ft.tr S2.ft).tr FT3).tr S4.ft, ?_, K3.sp D S4 P4, G4⟩
          · rw [base, b62, mX8_readOne_b121, b_rcv, if_pos K2.2.2.1.1, e3, o_bind, b_rcv, if_pos (lK55 P3.1.1), e4, o_bind]
          · rw [S4.2.2.2.2.2.2.2.2.2, (F3.2.2.2.2.2 (c + 55) (by have := D.1; omega)).1, S2.2.2.2.2.2.2.2.2.2, S1.2.2.2.2.2.2.2.2.2]
        · rw [if_neg a4] at b62
          left
          exact ⟨a4, CFl.at _ (S1.ft.tr S2.ft) P2 (by rw [base, b62])⟩
      · rw [if_neg a3] at base
        have oFe : oF g n B T t = 1 := by unfold oF; rw [if_pos a1, if_pos a2, if_neg a3]
        have oTe : oT g n B T t = nxt g n t := by unfold oT; rw [if_pos a1, if_pos a2, if_neg a3]
        rw [oFe, oTe]
        left
        exact ⟨n10, CFl.at _ S1.ft P1 base⟩
    · have oFe : oF g n B T t = 5 := by unfold oF; rw [if_pos a1, if_neg a2]
      have oTe : oT g n B T t = t := by unfold oT; rw [if_pos a1, if_neg a2]
      rw [oFe, oTe]
      left
      refine ⟨n50, CFl.at _ FT.rf P ?_⟩
      have ef : mX10_isFull h u = some 1 := by
        rw [mX10_isFull, b_gI, if_pos I.1, C.1, if_neg (by rw [show (12 : Int32) = Int32.ofNat 12 from rfl, lt_of' (by omega) (by omega)]; exact a2)]
      rw [mX8_readOne, b_rcv, if_pos K55, ek, o_bind, if_neg (nm_of (by omega)), b_rcv, if_pos I.1, ef, o_bind, if_neg n10, b_rcv, if_pos K55, mX8_fail, b_pI, if_pos K55, o_bind, rB0, o_bind]
  · rw [if_neg a1] at ek
    have oFe : oF g n B T t = kf B t := by unfold oF; rw [if_neg a1]
    have oTe : oT g n B T t = t := by unfold oT; rw [if_neg a1]
    rw [oFe, oTe]
    left
    exact ⟨a1, CFl.at _ FT.rf P (by rw [mX8_readOne, b_rcv, if_pos K55, ek, o_bind, if_pos rfl])⟩

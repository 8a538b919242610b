/-! reading a table: what it comes to; the class's -/
def wtF (g : Nat → Int32) (n : Nat) (B : Bk) (t : Tok) : Int32 := if isW t 3 = true then 0 else (if isW t 4 = true then kf B (nxt g n t) else 1)
def wtT (g : Nat → Int32) (n : Nat) (B : Bk) (t : Tok) : Tok := if isW t 3 = true then nxt g n t else (if isW t 4 = true then (if kf B (nxt g n t) = 0 then nxt g n (nxt g n t) else nxt g n t) else t)
def wtO (g : Nat → Int32) (n : Nat) (B : Bk) (t : Tok) : Option Nat := if isW t 3 = true then none else some (fN B (kL (nxt g n t)))
def cmT (t : Tok) : Bool := decide (kK t = 3 ∧ kV t = 44)
/-- the tokens of `by a , b` -/
def bf1 (B : Bk) (g : Nat → Int32) (n : Nat) (t : Tok) : Nat := fN B (kL (nxt g n t))
def bt2 (g : Nat → Int32) (n : Nat) (t : Tok) : Tok := nxt g n (nxt g n t)
def bt3 (g : Nat → Int32) (n : Nat) (t : Tok) : Tok := nxt g n (bt2 g n t)
def bf3 (B : Bk) (g : Nat → Int32) (n : Nat) (t : Tok) : Nat := fN B (kL (bt3 g n t))
def byF (g : Nat → Int32) (n : Nat) (B : Bk) (t : Tok) : Int32 := if isW t 5 = true then (if kf B (nxt g n t) = 0 then (if cmT (bt2 g n t) = true then (if kf B (bt3 g n t) = 0 then (if bf3 B g n t = bf1 B g n t then 3 else 0) else kf B (bt3 g n t)) else 0) else kf B (nxt g n t)) else 0
def byT (g : Nat → Int32) (n : Nat) (B : Bk) (t : Tok) : Tok := if isW t 5 = true then (if kf B (nxt g n t) = 0 then (if cmT (bt2 g n t) = true then (if kf B (bt3 g n t) = 0 then (if bf3 B g n t = bf1 B g n t then bt3 g n t else nxt g n (bt3 g n t)) else bt3 g n t) else bt2 g n t) else nxt g n t) else t
def by1 (g : Nat → Int32) (n : Nat) (B : Bk) (t : Tok) : Option Nat := if isW t 5 = true then some (bf1 B g n t) else none
def by2 (g : Nat → Int32) (n : Nat) (B : Bk) (t : Tok) : Option Nat := if isW t 5 = true then (if cmT (bt2 g n t) = true then some (bf3 B g n t) else none) else none
def whF (g : Nat → Int32) (n : Nat) (B : Bk) (t : Tok) : Int32 := if isW t 6 = true then (tstR g n B (nxt g n t)).1 else 0
def whT (g : Nat → Int32) (n : Nat) (B : Bk) (t : Tok) : Tok := if isW t 6 = true then (tstR g n B (nxt g n t)).2.1 else t
def whW (g : Nat → Int32) (n : Nat) (B : Bk) (t : Tok) : Ts := if isW t 6 = true then (tstR g n B (nxt g n t)).2.2 else noT
def taF (g : Nat → Int32) (n : Nat) (B : Bk) (t : Tok) : Int32 := if wtF g n B t = 0 then (if byF g n B (wtT g n B t) = 0 then (if whF g n B (byT g n B (wtT g n B t)) = 0 then (if kK (whT g n B (byT g n B (wtT g n B t))) = 0 then 0 else 1) else whF g n B (byT g n B (wtT g n B t))) else byF g n B (wtT g n B t)) else wtF g n B t
def taT (g : Nat → Int32) (n : Nat) (B : Bk) (t : Tok) : Tok := if wtF g n B t = 0 then (if byF g n B (wtT g n B t) = 0 then whT g n B (byT g n B (wtT g n B t)) else byT g n B (wtT g n B t)) else wtT g n B t
def taP (g : Nat → Int32) (n : Nat) (B : Bk) (t : Tok) : Pl := (wtO g n B t, by1 g n B (wtT g n B t), by2 g n B (wtT g n B t), whW g n B (byT g n B (wtT g n B t)))
theorem kf_lt {B : Bk} {t : Tok} (h : kf B t = 0) : fN B (kL t) < bF B := by
  unfold kf at h
  by_cases a : isN t = true
  · rw [if_pos a] at h
    by_cases b : fN B (kL t) < bF B
    · exact b
    · rw [if_neg b] at h; exact absurd h n20
  · rw [if_neg a] at h; exact absurd h n10
theorem kf_1 {B : Bk} {t : Tok} (h : kf B t = 0) : kK t = 1 := by
  unfold kf at h
  by_cases a : isN t = true
  · exact isN_1 a
  · rw [if_neg a] at h; exact absurd h n10
theorem ta_P {g : Nat → Int32} {n : Nat} {B : Bk} {t : Tok} (W : WB B) (N : ∀ f : Nat, f < bF B → WL (bM B f)) (TW : WT (bF B) (whW g n B (byT g n B (wtT g n B t)))) (h : taF g n B t = 0) : WP B (taP g n B t) := by
  unfold taF at h
  by_cases a0 : wtF g n B t = 0
  · rw [if_pos a0] at h
    by_cases a1 : byF g n B (wtT g n B t) = 0
    · refine ⟨fun f hf => ?_, fun f hf => ?_, fun f hf => ?_, fun e => ?_, TW⟩
      · have hf' : wtO g n B t = some f := hf
        unfold wtO at hf'
        unfold wtF at a0
        by_cases b : isW t 3 = true
        · rw [if_pos b] at hf'; cases hf'
        · rw [if_neg b] at hf' a0
          by_cases b4 : isW t 4 = true
          · rw [if_pos b4] at a0
            have := kf_lt a0
            have e := Option.some.inj hf'
            omega
          · rw [if_neg b4] at a0; exact absurd a0 n10
      · have hf' : by1 g n B (wtT g n B t) = some f := hf
        unfold by1 at hf'
        unfold byF at a1
        by_cases b : isW (wtT g n B t) 5 = true
        · rw [if_pos b] at hf' a1
          by_cases k1 : kf B (nxt g n (wtT g n B t)) = 0
          · have := kf_lt k1
            have e := Option.some.inj hf'
            unfold bf1 at e
            omega
          · rw [if_neg k1] at a1; exact absurd a1 k1
        · rw [if_neg b] at hf'; cases hf'
      · have hf' : by2 g n B (wtT g n B t) = some f := hf
        unfold by2 at hf'
        unfold byF at a1
        by_cases b : isW (wtT g n B t) 5 = true
        · rw [if_pos b] at hf' a1
          by_cases k1 : kf B (nxt g n (wtT g n B t)) = 0
          · rw [if_pos k1] at a1
            by_cases cm : cmT (bt2 g n (wtT g n B t)) = true
            · rw [if_pos cm] at hf' a1
              by_cases k3 : kf B (bt3 g n (wtT g n B t)) = 0
              · have := kf_lt k3
                have e := Option.some.inj hf'
                unfold bf3 at e
                omega
              · rw [if_neg k3] at a1; exact absurd a1 k3
            · rw [if_neg cm] at hf'; cases hf'
          · rw [if_neg k1] at a1; exact absurd a1 k1
        · rw [if_neg b] at hf'; cases hf'
      · have e' : by1 g n B (wtT g n B t) = none := e
        show by2 g n B (wtT g n B t) = none
        unfold by1 at e'
        unfold by2
        by_cases b : isW (wtT g n B t) 5 = true
        · rw [if_pos b] at e'; cases e'
        · rw [if_neg b]
    · rw [if_neg a1] at h; exact absurd h a1
  · rw [if_neg a0] at h; exact absurd h a0
/-! the class's -/
def CG (c p : Nat) (h h' : MHp) : Prop := CF c p (p + 7) h h' ∧ hI h' c = hI h c
theorem CG.tr {c p : Nat} {h h1 h2 : MHp} (A : CG c p h h1) (B : CG c p h1 h2) : CG c p h h2 := ⟨A.1.tr B.1, B.2.trans A.2⟩
theorem CG.sp {c p : Nat} {h h' : MHp} (S : Sp c h h') : CG c p h h' := ⟨CF.sp S, (S.2.2.2.2.2.2.2.1 c (by omega)).1⟩
theorem CG.I55 {c p : Nat} {h : MHp} (j : Nat) (v : Int32) : CG c p h (sI h (c + 55) j v) := ⟨CF.I55 j v, by funext i; rw [e_sI, if_neg (by omega)]⟩
theorem CG.Ip {c p : Nat} {h : MHp} (j : Nat) (v : Int32) (d : c < p) : CG c p h (sI h p j v) := ⟨CF.I p j v (by omega), by funext i; rw [e_sI, if_neg (by omega)]⟩
theorem CG.f4 {c p u : Nat} {h h' : MHp} (F : F4 u h h') (d : p ≤ u ∧ u + 4 ≤ p + 7 ∧ c < p) : CG c p h h' := by
  obtain ⟨a1, a2, a3, a4, a5, a6⟩ := F
  refine ⟨⟨a1, a2, a4, a5, fun a j _ => by rw [a3], fun a e1 e2 => ?_, fun a j e1 e2 _ => by rw [(a6 a (by omega)).1]⟩, (a6 c (by omega)).1⟩
  obtain ⟨x1, x2, x3, x4⟩ := a6 a (by omega)
  exact ⟨x2, x3, x4⟩
theorem CG.ft {c p u : Nat} {h h' : MHp} (F : FT c u h h') (d : p ≤ u ∧ u + 4 ≤ p + 7 ∧ c < p) : CG c p h h' := by
  obtain ⟨a1, a2, a3, a4, a5, a6, a7⟩ := F
  refine ⟨⟨a1, a2, a4, a5, fun a j _ => by rw [a3], fun a e1 e2 => ?_, fun a j e1 e2 _ => by rw [(a6 a e1 (by omega)).1]⟩, (a6 c (by omega) (by omega)).1⟩
  obtain ⟨x1, x2, x3, x4⟩ := a6 a e1 (by omega)
  exact ⟨x2, x3, x4⟩
def CFp (c p : Nat) (h : MHp) (F : Option (Int32 × MHp)) (f : Int32) (t : Tok) : Prop := ∃ h' : MHp, F = some (0, h') ∧ CG c p h h' ∧ hI h' (c + 55) 1 = f ∧ hI h' (c + 55) 2 = Int32.ofNat (kS t)
/-- the class's plan at p holds P so far, the reader stands at t -/
def Kp (c bo p : Nat) (g : Nat → Int32) (n : Nat) (B : Bk) (P : Pl) (t : Tok) (h : MHp) : Prop := PC c g n t h ∧ NB c bo B h ∧ (∀ f : Nat, f < bF B → hAI h (bo + 2) f = Int32.ofNat (bT B f)) ∧ IsP h p ∧ CP h p B P ∧ CX h p (fun _ => none) ∧ hI h (c + 55) 1 = 0
def Dp (c bo p : Nat) : Prop := (bo = c + 2 ∨ bo = c + 57) ∧ c + 120 ≤ p
theorem Kp.sp {c bo p n : Nat} {g : Nat → Int32} {B : Bk} {P : Pl} {t t' : Tok} {h h' : MHp} (D : Dp c bo p) (K : Kp c bo p g n B P t h) (S : Sp c h h') (P' : PC c g n t' h') : Kp c bo p g n B P t' h' := by
  obtain ⟨d1, d2⟩ := D
  obtain ⟨k1, k2, k3, k4, k5, k6, k7⟩ := K
  obtain ⟨a1, a2, a3, a4, a5, a6, a7, a8, a9, a10⟩ := id S
  have ip : hI h' p = hI h p := (a8 p (by omega)).1
  obtain ⟨i1, i2, i3, i4, i5, i6, i7, i8, i9⟩ := k4
  obtain ⟨q1, q2, q3, q4, q5, q6⟩ := k5
  refine ⟨P', (S.ft (u := p)).NB k2 (by omega) (by omega), by rw [a5]; exact k3, ⟨by rw [a1]; exact i1, by rw [a3]; exact i2, by rw [a3]; exact i3, by rw [a3]; exact i4, by rw [a1]; exact i5, by rw [a1]; exact i6, by rw [a2]; exact i7, by rw [a2]; exact i8, (S.ft (u := p)).IsT i9⟩, ⟨by rw [ip]; exact q1, by rw [ip]; exact q2, by rw [ip]; exact q3, by rw [ip]; exact q4, by rw [ip]; exact q5, S.CT (by omega) q6⟩, ?_, by rw [a10]; exact k7⟩
  unfold CX
  rw [a6]
  exact k6
/-- writing numbers into the plan -/
theorem Kp.I {c bo p n : Nat} {g : Nat → Int32} {B : Bk} {P P' : Pl} {t : Tok} {h h' : MHp} (D : Dp c bo p) (K : Kp c bo p g n B P t h) (e : hK h' = hK h ∧ hN h' = hN h ∧ hR h' = hR h ∧ hAR h' = hAR h ∧ hAI h' = hAI h ∧ hAL h' = hAL h ∧ hL h' = hL h ∧ ∀ a : Nat, a ≠ p → hI h' a = hI h a) (w : pW P' = pW P) (i3 : hI h' p 3 = oi (pS P')) (i4 : hI h' p 4 = oi (pI1 P')) (i5 : hI h' p 5 = oi (pI2 P')) (i6 : hI h' p 6 = Int32.ofNat (vs B (pI1 P'))) (i7 : hI h' p 7 = Int32.ofNat (vs B (pI2 P'))) : Kp c bo p g n B P' t h' := by
  obtain ⟨d1, d2⟩ := D
  obtain ⟨k1, k2, k3, k4, k5, k6, k7⟩ := K
  obtain ⟨a1, a2, a3, a4, a5, a6, a7, a8⟩ := e
  have G : ∀ lo hi : Nat, p < lo ∨ hi ≤ p → Ag lo hi h h' := fun lo hi d a x y => ⟨by rw [a1], by rw [a2], a8 a (by omega), by rw [a7], by rw [a3], by rw [a5], by rw [a6], by rw [a4]⟩
  obtain ⟨⟨L, p1, p2, p3⟩, p4⟩ := k1
  obtain ⟨i1', i2', i3', i4', i5', i6', i7', i8', i9'⟩ := k4
  have c55 : hI h' (c + 55) = hI h (c + 55) := a8 _ (by omega)
  have L' : CL c h' := by
    obtain ⟨l1, l2, l3⟩ := L
    exact ⟨by rw [a1, a2]; exact l1, by rw [a3]; exact l2, by rw [a4]; exact l3⟩
  obtain ⟨n1, n2, n3, n4⟩ := k2
  refine ⟨⟨⟨L', by rw [a5]; exact p1, by rw [c55]; exact p2, p3⟩, by rw [c55, a7]; exact p4⟩, ⟨by rw [a3]; exact n1, ?_, by rw [a8 bo (by omega)]; exact n3, by rw [a6]; exact n4⟩, by rw [a5]; exact k3, ⟨by rw [a1]; exact i1', by rw [a3]; exact i2', by rw [a3]; exact i3', by rw [a3]; exact i4', by rw [a1]; exact i5', by rw [a1]; exact i6', by rw [a2]; exact i7', by rw [a2]; exact i8', ?_⟩, ⟨i3, i4, i5, i6, i7, by rw [w]; exact k5.2.2.2.2.2.ag (G _ _ (by omega))⟩, ?_, by rw [c55]; exact k7⟩
  · rcases d1 with rfl | rfl
    · exact L'.b (Or.inl rfl)
    · exact L'.b (Or.inr rfl)
  · unfold IsT at i9' ⊢
    rw [a1, a2, a3]
    exact i9'
  · unfold CX
    rw [a6]
    exact k6
theorem p_top {bo f : Nat} {h : MHp} {B : Bk} (I : IsB h bo) (c4 : hI h bo 4 = Int32.ofNat (bF B)) (w6 : bF B ≤ 6) (tops : ∀ f : Nat, f < bF B → hAI h (bo + 2) f = Int32.ofNat (bT B f)) (hf : f < bF B) : mX1_topOf h bo (Int32.ofNat f) = some (Int32.ofNat (bT B f)) := by
  have e := p_hasField I c4 w6 hf
  obtain ⟨i1, i2, i3, i4, i5, i6, i7, i8, i9, i10, i11, i12, i13, -⟩ := I
  rw [mX1_topOf, b_rcv, if_pos i1, e, o_bind, if_neg n10, b_gR, if_pos i1, i3, b_gAI, if_pos i7, i11, if_neg (bad_n (by omega) (by omega)), cl_of (by omega), tops f hf]
theorem p_plan0 {c p : Nat} {B : Bk} {h : MHp} (d : c + 120 ≤ p) (I : IsP h p) : ∃ h1 : MHp, mX7_clear h p = some h1 ∧ CG c p h h1 ∧ hR h1 = hR h ∧ CP h1 p B (none, none, none, noT) ∧ CX h1 p (fun _ => none) := by
  obtain ⟨i1, i2, i3, i4, i5, i6, i7, i8, i9⟩ := id I
  obtain ⟨X, eX, CT1, F1⟩ := p_clear i9
  obtain ⟨a1, a2, a3, a4, a5, a6⟩ := id F1
  have kp : hK X p = 8 := by rw [a1]; exact i1
  have k6 : hK X (p + 6) = 21 := by rw [a1]; exact i6
  have n6 : hN X (p + 6) = 100 := by rw [a2]; exact i8
  have r2 : hR X p 2 = some (p + 6) := by rw [a3]; exact i4
  have f := j_fillL (v := -1) k6 n6 (by omega)
  obtain ⟨Y, eY⟩ : ∃ Y : MHp, Y = sAL X (p + 6) (fun j => if j < 100 then -1 else hAL X (p + 6) j) := ⟨_, rfl⟩
  rw [← eY] at f
  obtain ⟨Z, eZ⟩ : ∃ Z : MHp, Z = sI (sI (sI (sI (sI Y p 3 (-1)) p 4 (-1)) p 5 (-1)) p 6 1) p 7 1 := ⟨_, rfl⟩
  have KY : hK Y p = 8 := by rw [eY]; exact kp
  have FY : CG c p X Y := by
    rw [eY]
    refine ⟨⟨rfl, rfl, rfl, rfl, fun _ _ _ => rfl, fun a _ e => ⟨rfl, rfl, ?_⟩, fun _ _ _ _ _ => rfl⟩, rfl⟩
    rw [e_sAL, if_neg (by omega)]
  have FZ : CG c p Y Z := by
    rw [eZ]
    exact ((((CG.Ip 3 _ (by omega)).tr (CG.Ip 4 _ (by omega))).tr (CG.Ip 5 _ (by omega))).tr (CG.Ip 6 _ (by omega))).tr (CG.Ip 7 _ (by omega))
  have IZ : ∀ a : Nat, a ≠ p → hI Z a = hI X a := fun a ha => by
    rw [eZ, eY]
    funext j
    rw [e_sI, if_neg (fun e => ha e.1), e_sI, if_neg (fun e => ha e.1), e_sI, if_neg (fun e => ha e.1), e_sI, if_neg (fun e => ha e.1), e_sI, if_neg (fun e => ha e.1)]
    rfl
  refine ⟨Z, ?_, ((CG.f4 F1 (by omega)).tr FY).tr FZ, ?_, ⟨?_, ?_, ?_, ?_, ?_, ?_⟩, fun k hk => ?_⟩
  · rw [mX7_clear, b_gR, if_pos i1, i2, b_rcv, if_pos i9.1, eX, o_bind, b_gR, if_pos kp, r2, f, o_bind, b_pI, if_pos KY, b_pI, if_pos (by exact KY), b_pI, if_pos (by exact KY), b_pI, if_pos (by exact KY), b_pI, if_pos (by exact KY), eZ]
  · rw [eZ, eY]; exact a3
  · rw [eZ, e_sI, if_neg (by omega), e_sI, if_neg (by omega), e_sI, if_neg (by omega), e_sI, if_neg (by omega), e_Iself]; rfl
  · rw [eZ, e_sI, if_neg (by omega), e_sI, if_neg (by omega), e_sI, if_neg (by omega), e_Iself]; rfl
  · rw [eZ, e_sI, if_neg (by omega), e_sI, if_neg (by omega), e_Iself]; rfl
  · rw [eZ, e_sI, if_neg (by omega), e_Iself]; rfl
  · rw [eZ, e_Iself]; rfl
  · refine CT.ag (fun a x y => ⟨by rw [eZ, eY]; rfl, by rw [eZ, eY]; rfl, IZ a (by omega), by rw [eZ, eY]; rfl, by rw [eZ, eY]; rfl, by rw [eZ, eY]; rfl, ?_, by rw [eZ, eY]; rfl⟩) CT1
    rw [eZ, eY]
    show hAL (sAL X (p + 6) _) a = hAL X a
    rw [e_sAL, if_neg (by omega)]
  · show hAL Z (p + 6) k = -1
    rw [eZ, eY]
    show hAL (sAL X (p + 6) _) (p + 6) k = -1
    rw [e_sAL, if_pos rfl, if_pos hk]

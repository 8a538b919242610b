theorem b_inA' {β : Type} (kd : Nat) (h : MHp) (a : Nat) (i : Int32) (f : Nat → Option β) : (inA kd h (some a) i).bind f = if hK h a = kd then (if bad i (hN h a) = true then none else f a) else none := b_inA kd h a i f
/-! the constructors: where the objects come to lie doesn't matter -/
def mp (c : Nat) (o : Option Nat) : Option Nat := o.map (fun a => c + a)
theorem mp_some (c a : Nat) : mp c (some a) = some (c + a) := (rfl)
theorem mv {c A a : Nat} (e : a = c + A) : some a = mp c (some A) := by rw [e, mp_some]
def Sh (c : Nat) (H h : MHp) : Prop := hS h = c + hS H ∧ (∀ k : Nat, hK h (c + k) = hK H k ∧ hN h (c + k) = hN H k ∧ hI h (c + k) = hI H k ∧ hL h (c + k) = hL H k ∧ hAI h (c + k) = hAI H k ∧ hAL h (c + k) = hAL H k ∧ (∀ j : Nat, hR h (c + k) j = mp c (hR H k j)) ∧ ∀ j : Nat, hAR h (c + k) j = mp c (hAR H k j)) ∧ ∀ k : Nat, hAI H k = (fun _ => 0) ∨ hAI H k = stV 0
theorem Sh.nO {c : Nat} {H h : MHp} (S : Sh c H h) (kd n : Nat) : Sh c (nO H kd n) (nO h kd n) := by
  obtain ⟨s1, s2, s3⟩ := S
  refine ⟨by rw [e_S_nO, e_S_nO]; omega, fun k => ?_, s3⟩
  obtain ⟨x1, x2, x3, x4, x5, x6, x7, x8⟩ := s2 k
  refine ⟨?_, x2, ?_, ?_, x5, x6, fun j => ?_, x8⟩
  · rw [e_K_nO, e_K_nO]
    by_cases q : k = hS H
    · rw [if_pos (by omega), if_pos q]
    · rw [if_neg (by omega), if_neg q]; exact x1
  · rw [e_I_nO, e_I_nO]
    by_cases q : k = hS H
    · rw [if_pos (by omega), if_pos q]
    · rw [if_neg (by omega), if_neg q]; exact x3
  · rw [e_L_nO, e_L_nO]
    by_cases q : k = hS H
    · rw [if_pos (by omega), if_pos q]
    · rw [if_neg (by omega), if_neg q]; exact x4
  · rw [e_R_nO, e_R_nO]
    by_cases q : k = hS H
    · rw [if_pos (by omega), if_pos q]; rfl
    · rw [if_neg (by omega), if_neg q]; exact x7 j
theorem Sh.nA {c : Nat} {H h : MHp} (S : Sh c H h) (kd n : Nat) : Sh c (nA H kd n) (nA h kd n) := by
  obtain ⟨s1, s2, s3⟩ := S
  refine ⟨by rw [e_S_nA, e_S_nA]; omega, fun k => ?_, fun k => ?_⟩
  · obtain ⟨x1, x2, x3, x4, x5, x6, x7, x8⟩ := s2 k
    refine ⟨?_, ?_, x3, x4, ?_, ?_, x7, fun j => ?_⟩
    · rw [e_K_nA, e_K_nA]
      by_cases q : k = hS H
      · rw [if_pos (by omega), if_pos q]
      · rw [if_neg (by omega), if_neg q]; exact x1
    · rw [e_N_nA, e_N_nA]
      by_cases q : k = hS H
      · rw [if_pos (by omega), if_pos q]
      · rw [if_neg (by omega), if_neg q]; exact x2
    · rw [e_AI_nA, e_AI_nA]
      by_cases q : k = hS H
      · rw [if_pos (by omega), if_pos q]
      · rw [if_neg (by omega), if_neg q]; exact x5
    · rw [e_AL_nA, e_AL_nA]
      by_cases q : k = hS H
      · rw [if_pos (by omega), if_pos q]
      · rw [if_neg (by omega), if_neg q]; exact x6
    · rw [e_AR_nA, e_AR_nA]
      by_cases q : k = hS H
      · rw [if_pos (by omega), if_pos q]; rfl
      · rw [if_neg (by omega), if_neg q]; exact x8 j
  · rw [e_AI_nA]
    by_cases q : k = hS H
    · rw [if_pos q]; exact Or.inl rfl
    · rw [if_neg q]; exact s3 k
theorem Sh.nAS {c : Nat} {H h : MHp} (S : Sh c H h) : Sh c (nAS 0 H) (nAS 0 h) := by
  obtain ⟨s1, s2, s3⟩ := S.nA 20 4
  have S1 := S.1
  unfold _root_.Jvm.Pilot.CCountOfficeLaw_law_r2784_6c1ddc.nAS
  refine ⟨s1, fun k => ?_, fun k => ?_⟩
  · obtain ⟨x1, x2, x3, x4, x5, x6, x7, x8⟩ := s2 k
    refine ⟨x1, x2, x3, x4, ?_, x6, x7, x8⟩
    rw [e_sAI, e_sAI]
    by_cases q : k = hS H
    · rw [if_pos (by omega), if_pos q]
    · rw [if_neg (by omega), if_neg q]; exact x5
  · rw [e_sAI]
    by_cases q : k = hS H
    · rw [if_pos q]; exact Or.inr rfl
    · rw [if_neg q]; exact s3 k
theorem Sh.R {c : Nat} {H h : MHp} (S : Sh c H h) (A j : Nat) (v : Option Nat) : Sh c (sR H A j v) (sR h (c + A) j (mp c v)) := by
  obtain ⟨s1, s2, s3⟩ := S
  refine ⟨s1, fun k => ?_, s3⟩
  obtain ⟨x1, x2, x3, x4, x5, x6, x7, x8⟩ := s2 k
  refine ⟨x1, x2, x3, x4, x5, x6, fun i => ?_, x8⟩
  rw [e_sR, e_sR]
  by_cases q : k = A ∧ i = j
  · rw [if_pos (by omega), if_pos q]
  · rw [if_neg (by omega), if_neg q]; exact x7 i
theorem Sh.I {c : Nat} {H h : MHp} (S : Sh c H h) (A j : Nat) (v : Int32) : Sh c (sI H A j v) (sI h (c + A) j v) := by
  obtain ⟨s1, s2, s3⟩ := S
  refine ⟨s1, fun k => ?_, s3⟩
  obtain ⟨x1, x2, x3, x4, x5, x6, x7, x8⟩ := s2 k
  refine ⟨x1, x2, ?_, x4, x5, x6, x7, x8⟩
  funext i
  rw [e_sI, e_sI]
  by_cases q : k = A ∧ i = j
  · rw [if_pos (by omega), if_pos q]
  · rw [if_neg (by omega), if_neg q, x3]
theorem Sh.AR {c : Nat} {H h : MHp} (S : Sh c H h) (A i B : Nat) : Sh c (sAR H A (va_up (hAR H A) i (some B))) (sAR h (c + A) (va_up (hAR h (c + A)) i (some (c + B)))) := by
  obtain ⟨s1, s2, s3⟩ := S
  refine ⟨s1, fun k => ?_, s3⟩
  obtain ⟨x1, x2, x3, x4, x5, x6, x7, x8⟩ := s2 k
  refine ⟨x1, x2, x3, x4, x5, x6, x7, fun j => ?_⟩
  rw [e_sAR, e_sAR]
  by_cases q : k = A
  · rw [if_pos (by omega), if_pos q, e_up, e_up]
    by_cases r : j = i
    · rw [if_pos r, if_pos r]; rfl
    · rw [if_neg r, if_neg r, ← q]; exact x8 j
  · rw [if_neg (by omega), if_neg q]; exact x8 j
def Eq2 (c : Nat) (F0 F : Option MHp) : Prop := ∀ R : MHp, F0 = some R → ∃ r : MHp, F = some r ∧ Sh c R r
theorem E_none {c : Nat} {F : Option MHp} : Eq2 c none F := fun R e => by cases e
theorem E_ret {c : Nat} {H h : MHp} (S : Sh c H h) : Eq2 c (some H) (some h) := fun R e => ⟨h, rfl, by cases e; exact S⟩
theorem E_nO {c kd n : Nat} {H h : MHp} {f0 f : MHp → Option MHp} (S : Sh c H h) (k : ∀ H' h' : MHp, Sh c H' h' → Eq2 c (f0 H') (f h')) : Eq2 c ((some (nO H kd n)).bind f0) ((some (nO h kd n)).bind f) := by
  rw [o_bind, o_bind]; exact k _ _ (S.nO kd n)
theorem E_nA {c kd n : Nat} {H h : MHp} {f0 f : MHp → Option MHp} (S : Sh c H h) (k : ∀ H' h' : MHp, Sh c H' h' → Eq2 c (f0 H') (f h')) : Eq2 c ((some (nA H kd n)).bind f0) ((some (nA h kd n)).bind f) := by
  rw [o_bind, o_bind]; exact k _ _ (S.nA kd n)
theorem E_nAS {c : Nat} {H h : MHp} {f0 f : MHp → Option MHp} (S : Sh c H h) (k : ∀ H' h' : MHp, Sh c H' h' → Eq2 c (f0 H') (f h')) : Eq2 c ((some (nAS 0 H)).bind f0) ((some (nAS 0 h)).bind f) := by
  rw [o_bind, o_bind]; exact k _ _ S.nAS
theorem E_pR {c kd j A a : Nat} {v0 v : Option Nat} {H h : MHp} {f0 f : MHp → Option MHp} (S : Sh c H h) (ha : a = c + A) (hv : v = mp c v0) (k : ∀ H' h' : MHp, Sh c H' h' → Eq2 c (f0 H') (f h')) : Eq2 c ((pR kd j H (some A) v0).bind f0) ((pR kd j h (some a) v).bind f) := by
  subst ha hv
  rw [b_pR, b_pR]
  by_cases q : hK H A = kd
  · rw [if_pos q, if_pos (by rw [(S.2.1 A).1]; exact q)]; exact k _ _ (S.R A j v0)
  · rw [if_neg q]; exact E_none
theorem E_pI {c kd j A a : Nat} {v : Int32} {H h : MHp} {f0 f : MHp → Option MHp} (S : Sh c H h) (ha : a = c + A) (k : ∀ H' h' : MHp, Sh c H' h' → Eq2 c (f0 H') (f h')) : Eq2 c ((pI kd j H (some A) v).bind f0) ((pI kd j h (some a) v).bind f) := by
  subst ha
  rw [b_pI, b_pI]
  by_cases q : hK H A = kd
  · rw [if_pos q, if_pos (by rw [(S.2.1 A).1]; exact q)]; exact k _ _ (S.I A j v)
  · rw [if_neg q]; exact E_none
theorem E_gR {c kd j A a : Nat} {H h : MHp} {f0 f : Option Nat → Option MHp} (S : Sh c H h) (ha : a = c + A) (k : ∀ X x : Option Nat, x = mp c X → Eq2 c (f0 X) (f x)) : Eq2 c ((gR kd j H (some A)).bind f0) ((gR kd j h (some a)).bind f) := by
  subst ha
  rw [b_gR, b_gR]
  by_cases q : hK H A = kd
  · rw [if_pos q, if_pos (by rw [(S.2.1 A).1]; exact q)]; exact k _ _ ((S.2.1 A).2.2.2.2.2.2.1 j)
  · rw [if_neg q]; exact E_none
theorem E_gN {c kd : Nat} {X x : Option Nat} {H h : MHp} {f0 f : Int32 → Option MHp} (S : Sh c H h) (hx : x = mp c X) (k : ∀ n : Int32, Eq2 c (f0 n) (f n)) : Eq2 c ((gN kd H X).bind f0) ((gN kd h x).bind f) := by
  subst hx
  cases X with
  | none => exact E_none
  | some A =>
    rw [mp_some, b_gN, b_gN]
    by_cases q : hK H A = kd
    · rw [if_pos q, if_pos (by rw [(S.2.1 A).1]; exact q), (S.2.1 A).2.1]; exact k _
    · rw [if_neg q]; exact E_none
theorem E_pAR {c kd kv B b : Nat} {i : Int32} {X x : Option Nat} {H h : MHp} {f0 f : MHp → Option MHp} (S : Sh c H h) (hx : x = mp c X) (hb : b = c + B) (k : ∀ H' h' : MHp, Sh c H' h' → Eq2 c (f0 H') (f h')) : Eq2 c ((pAR kd kv H X i (some B)).bind f0) ((pAR kd kv h x i (some b)).bind f) := by
  subst hx hb
  cases X with
  | none => exact E_none
  | some A =>
    unfold pAR
    rw [mp_some, b_inA', b_inA']
    by_cases q : hK H A = kd
    · have q' : hK h (c + A) = kd := by rw [(S.2.1 A).1]; exact q
      rw [if_pos q, if_pos q', (S.2.1 A).2.1]
      by_cases bd : bad i (hN H A) = true
      · rw [if_pos bd]; exact E_none
      · rw [if_neg bd, if_neg bd, e_rcv, e_rcv]
        by_cases q2 : hK H B = kv
        · have q3 : hK h (c + B) = kv := by rw [(S.2.1 B).1]; exact q2
          rw [if_pos q2, if_pos q3, o_map, o_map, o_bind, o_bind]; exact k _ _ (S.AR A i.toNatClampNeg B)
        · rw [if_neg q2]; exact E_none
    · rw [if_neg q]; exact E_none
theorem E_call {c : Nat} {F0 F : Option MHp} {f0 f : MHp → Option MHp} (E : Eq2 c F0 F) (k : ∀ H' h' : MHp, Sh c H' h' → Eq2 c (f0 H') (f h')) : Eq2 c (F0.bind f0) (F.bind f) := by
  intro R e
  cases F0 with
  | none => cases e
  | some H' =>
    obtain ⟨h', e', S'⟩ := E _ rfl
    rw [e', o_bind]
    exact k _ _ S' R e
theorem E_le {c : Nat} {x v : Int32} {A0 A B0 B : Option MHp} (k1 : Eq2 c A0 A) (k2 : Eq2 c B0 B) : Eq2 c (if x ≤ v then A0 else B0) (if x ≤ v then A else B) := by
  by_cases q : x ≤ v
  · rw [if_pos q, if_pos q]; exact k1
  · rw [if_neg q, if_neg q]; exact k2
theorem Q_E0_init {c : Nat} {H h : MHp} (S : Sh c H h) {A a : Nat} (ha : a = c + A) : Eq2 c (mE0_init H A none none 0 0) (mE0_init h a none none 0 0) := by
  subst ha
  unfold mE0_init mE1_init mE2g
  by_cases q : hK H A = 14
  · rw [if_pos ⟨q, rfl, rfl⟩, if_pos ⟨(S.2.1 A).1.trans q, rfl, rfl⟩, o_bind, o_bind, o_bind, o_bind]
    exact E_ret ((((S.R A 1 none).R A 3 none).R A 0 none).R A 2 none)
  · rw [if_neg (fun e => q e.1)]; exact E_none

theorem Q_X10_init {c : Nat} {G_h h : MHp} (S_h : Sh c G_h h) {G_a0 a0 : Nat} (e_a0 : a0 = c + G_a0) : Eq2 c (mX10_init G_h G_a0) (mX10_init h a0) := by
  unfold mX10_init
  refine E_nA S_h (fun G_h1 h1 S_h1 => ?_)
  refine E_pR S_h1 e_a0 (mv S_h.1) (fun G_h2 h2 S_h2 => ?_)
  refine E_nA S_h2 (fun G_h3 h3 S_h3 => ?_)
  refine E_pR S_h3 e_a0 (mv S_h2.1) (fun G_h4 h4 S_h4 => ?_)
  refine E_nA S_h4 (fun G_h5 h5 S_h5 => ?_)
  refine E_pR S_h5 e_a0 (mv S_h4.1) (fun G_h6 h6 S_h6 => ?_)
  exact E_ret S_h6
theorem Q_X1_init_l44 {c : Nat} {G_a0 a0 : Nat} : ∀ (n : Nat) {G_h h : MHp} (S_h : Sh c G_h h) (e_a0 : a0 = c + G_a0) (v1 : Int32), Eq2 c (mX1_init_l44 n G_h G_a0 v1) (mX1_init_l44 n h a0 v1) := by
  intro n G_h h S_h e_a0
  induction n generalizing G_h h with
  | zero => intro v1; exact E_none
  | succ n ih =>
    intro v1
    unfold mX1_init_l44
    refine E_gR S_h e_a0 (fun G_x1 x1 e_x1 => ?_)
    refine E_gN S_h e_x1 (fun x2 => ?_)
    refine E_le ?_ ?_
    · skip
      exact E_ret S_h
    · skip
      refine E_gR S_h e_a0 (fun G_x3 x3 e_x3 => ?_)
      refine E_nO S_h (fun G_h4 h4 S_h4 => ?_)
      refine E_call (Q_X10_init S_h4 S_h.1) (fun G_r5 r5 S_r5 => ?_)
      refine E_pAR S_r5 e_x3 S_h.1 (fun G_h7 h7 S_h7 => ?_)
      exact ih S_h7 _
theorem Q_X1_init {c : Nat} {G_h h : MHp} (S_h : Sh c G_h h) {G_a0 a0 : Nat} (e_a0 : a0 = c + G_a0) : Eq2 c (mX1_init G_h G_a0) (mX1_init h a0) := by
  unfold mX1_init
  refine E_nA S_h (fun G_h9 h9 S_h9 => ?_)
  refine E_pR S_h9 e_a0 (mv S_h.1) (fun G_h10 h10 S_h10 => ?_)
  refine E_nA S_h10 (fun G_h11 h11 S_h11 => ?_)
  refine E_pR S_h11 e_a0 (mv S_h10.1) (fun G_h12 h12 S_h12 => ?_)
  refine E_nA S_h12 (fun G_h13 h13 S_h13 => ?_)
  refine E_pR S_h13 e_a0 (mv S_h12.1) (fun G_h14 h14 S_h14 => ?_)
  refine E_nA S_h14 (fun G_h15 h15 S_h15 => ?_)
  refine E_pR S_h15 e_a0 (mv S_h14.1) (fun G_h16 h16 S_h16 => ?_)
  refine E_pI S_h16 e_a0 (fun G_h17 h17 S_h17 => ?_)
  exact Q_X1_init_l44 _ S_h17 e_a0 _
theorem Q_X8_init {c : Nat} {G_h h : MHp} (S_h : Sh c G_h h) {G_a0 a0 : Nat} (e_a0 : a0 = c + G_a0) {G_a1 a1 : Option Nat} (e_a1 : a1 = mp c G_a1) {G_a2 a2 : Option Nat} (e_a2 : a2 = mp c G_a2) : Eq2 c (mX8_init G_h G_a0 G_a1 G_a2) (mX8_init h a0 a1 a2) := by
  unfold mX8_init
  refine E_pR S_h e_a0 e_a1 (fun G_h1 h1 S_h1 => ?_)
  refine E_pR S_h1 e_a0 e_a2 (fun G_h2 h2 S_h2 => ?_)
  exact E_ret S_h2
theorem Q_X9_init {c : Nat} {G_h h : MHp} (S_h : Sh c G_h h) {G_a0 a0 : Nat} (e_a0 : a0 = c + G_a0) {G_a1 a1 : Option Nat} (e_a1 : a1 = mp c G_a1) : Eq2 c (mX9_init G_h G_a0 G_a1) (mX9_init h a0 a1) := by
  unfold mX9_init
  refine E_nA S_h (fun G_h1 h1 S_h1 => ?_)
  refine E_pR S_h1 e_a0 (mv S_h.1) (fun G_h2 h2 S_h2 => ?_)
  refine E_nA S_h2 (fun G_h3 h3 S_h3 => ?_)
  refine E_pR S_h3 e_a0 (mv S_h2.1) (fun G_h4 h4 S_h4 => ?_)
  refine E_nA S_h4 (fun G_h5 h5 S_h5 => ?_)
  refine E_pR S_h5 e_a0 (mv S_h4.1) (fun G_h6 h6 S_h6 => ?_)
  refine E_nA S_h6 (fun G_h7 h7 S_h7 => ?_)
  refine E_pR S_h7 e_a0 (mv S_h6.1) (fun G_h8 h8 S_h8 => ?_)
  refine E_nA S_h8 (fun G_h9 h9 S_h9 => ?_)
  refine E_pR S_h9 e_a0 (mv S_h8.1) (fun G_h10 h10 S_h10 => ?_)
  refine E_nA S_h10 (fun G_h11 h11 S_h11 => ?_)
  refine E_pR S_h11 e_a0 (mv S_h10.1) (fun G_h12 h12 S_h12 => ?_)
  refine E_nA S_h12 (fun G_h13 h13 S_h13 => ?_)
  refine E_pR S_h13 e_a0 (mv S_h12.1) (fun G_h14 h14 S_h14 => ?_)
  refine E_nA S_h14 (fun G_h15 h15 S_h15 => ?_)
  refine E_pR S_h15 e_a0 (mv S_h14.1) (fun G_h16 h16 S_h16 => ?_)
  refine E_nA S_h16 (fun G_h17 h17 S_h17 => ?_)
  refine E_pR S_h17 e_a0 (mv S_h16.1) (fun G_h18 h18 S_h18 => ?_)
  refine E_pR S_h18 e_a0 e_a1 (fun G_h19 h19 S_h19 => ?_)
  exact E_ret S_h19
theorem Q_X6_init {c : Nat} {G_h h : MHp} (S_h : Sh c G_h h) {G_a0 a0 : Nat} (e_a0 : a0 = c + G_a0) {G_a1 a1 : Option Nat} (e_a1 : a1 = mp c G_a1) : Eq2 c (mX6_init G_h G_a0 G_a1) (mX6_init h a0 a1) := by
  unfold mX6_init
  refine E_nA S_h (fun G_h1 h1 S_h1 => ?_)
  refine E_pR S_h1 e_a0 (mv S_h.1) (fun G_h2 h2 S_h2 => ?_)
  refine E_pR S_h2 e_a0 e_a1 (fun G_h3 h3 S_h3 => ?_)
  exact E_ret S_h3
theorem Q_X0_init {c : Nat} {G_h h : MHp} (S_h : Sh c G_h h) {G_a0 a0 : Nat} (e_a0 : a0 = c + G_a0) {G_a1 a1 : Option Nat} (e_a1 : a1 = mp c G_a1) : Eq2 c (mX0_init G_h G_a0 G_a1) (mX0_init h a0 a1) := by
  unfold mX0_init
  refine E_pI S_h e_a0 (fun G_h1 h1 S_h1 => ?_)
  refine E_nA S_h1 (fun G_h2 h2 S_h2 => ?_)
  refine E_pR S_h2 e_a0 (mv S_h1.1) (fun G_h3 h3 S_h3 => ?_)
  refine E_nA S_h3 (fun G_h4 h4 S_h4 => ?_)
  refine E_pR S_h4 e_a0 (mv S_h3.1) (fun G_h5 h5 S_h5 => ?_)
  refine E_nA S_h5 (fun G_h6 h6 S_h6 => ?_)
  refine E_pR S_h6 e_a0 (mv S_h5.1) (fun G_h7 h7 S_h7 => ?_)
  refine E_pR S_h7 e_a0 e_a1 (fun G_h8 h8 S_h8 => ?_)
  exact E_ret S_h8
theorem Q_X2_init {c : Nat} {G_h h : MHp} (S_h : Sh c G_h h) {G_a0 a0 : Nat} (e_a0 : a0 = c + G_a0) {G_a1 a1 : Option Nat} (e_a1 : a1 = mp c G_a1) : Eq2 c (mX2_init G_h G_a0 G_a1) (mX2_init h a0 a1) := by
  unfold mX2_init
  refine E_nA S_h (fun G_h1 h1 S_h1 => ?_)
  refine E_pR S_h1 e_a0 (mv S_h.1) (fun G_h2 h2 S_h2 => ?_)
  refine E_pR S_h2 e_a0 e_a1 (fun G_h3 h3 S_h3 => ?_)
  exact E_ret S_h3
theorem Q_X3_init {c : Nat} {G_h h : MHp} (S_h : Sh c G_h h) {G_a0 a0 : Nat} (e_a0 : a0 = c + G_a0) {G_a1 a1 : Option Nat} (e_a1 : a1 = mp c G_a1) : Eq2 c (mX3_init G_h G_a0 G_a1) (mX3_init h a0 a1) := by
  unfold mX3_init
  refine E_nA S_h (fun G_h1 h1 S_h1 => ?_)
  refine E_pR S_h1 e_a0 (mv S_h.1) (fun G_h2 h2 S_h2 => ?_)
  refine E_nA S_h2 (fun G_h3 h3 S_h3 => ?_)
  refine E_pR S_h3 e_a0 (mv S_h2.1) (fun G_h4 h4 S_h4 => ?_)
  refine E_nA S_h4 (fun G_h5 h5 S_h5 => ?_)
  refine E_pR S_h5 e_a0 (mv S_h4.1) (fun G_h6 h6 S_h6 => ?_)
  refine E_nA S_h6 (fun G_h7 h7 S_h7 => ?_)
  refine E_pR S_h7 e_a0 (mv S_h6.1) (fun G_h8 h8 S_h8 => ?_)
  refine E_nA S_h8 (fun G_h9 h9 S_h9 => ?_)
  refine E_pR S_h9 e_a0 (mv S_h8.1) (fun G_h10 h10 S_h10 => ?_)
  refine E_pI S_h10 e_a0 (fun G_h11 h11 S_h11 => ?_)
  refine E_pI S_h11 e_a0 (fun G_h12 h12 S_h12 => ?_)
  refine E_pR S_h12 e_a0 e_a1 (fun G_h13 h13 S_h13 => ?_)
  exact E_ret S_h13
theorem Q_X4_init {c : Nat} {G_h h : MHp} (S_h : Sh c G_h h) {G_a0 a0 : Nat} (e_a0 : a0 = c + G_a0) : Eq2 c (mX4_init G_h G_a0) (mX4_init h a0) := by
  unfold mX4_init
  refine E_nA S_h (fun G_h1 h1 S_h1 => ?_)
  refine E_pR S_h1 e_a0 (mv S_h.1) (fun G_h2 h2 S_h2 => ?_)
  exact E_ret S_h2
theorem Q_X5_init {c : Nat} {G_h h : MHp} (S_h : Sh c G_h h) {G_a0 a0 : Nat} (e_a0 : a0 = c + G_a0) {G_a1 a1 : Option Nat} (e_a1 : a1 = mp c G_a1) : Eq2 c (mX5_init G_h G_a0 G_a1) (mX5_init h a0 a1) := by
  unfold mX5_init
  refine E_pI S_h e_a0 (fun G_h1 h1 S_h1 => ?_)
  refine E_nA S_h1 (fun G_h2 h2 S_h2 => ?_)
  refine E_pR S_h2 e_a0 (mv S_h1.1) (fun G_h3 h3 S_h3 => ?_)
  refine E_nA S_h3 (fun G_h4 h4 S_h4 => ?_)
  refine E_pR S_h4 e_a0 (mv S_h3.1) (fun G_h5 h5 S_h5 => ?_)
  refine E_nA S_h5 (fun G_h6 h6 S_h6 => ?_)
  refine E_pR S_h6 e_a0 (mv S_h5.1) (fun G_h7 h7 S_h7 => ?_)
  refine E_nA S_h7 (fun G_h8 h8 S_h8 => ?_)
  refine E_pR S_h8 e_a0 (mv S_h7.1) (fun G_h9 h9 S_h9 => ?_)
  refine E_nA S_h9 (fun G_h10 h10 S_h10 => ?_)
  refine E_pR S_h10 e_a0 (mv S_h9.1) (fun G_h11 h11 S_h11 => ?_)
  refine E_nA S_h11 (fun G_h12 h12 S_h12 => ?_)
  refine E_pR S_h12 e_a0 (mv S_h11.1) (fun G_h13 h13 S_h13 => ?_)
  refine E_pR S_h13 e_a0 e_a1 (fun G_h14 h14 S_h14 => ?_)
  exact E_ret S_h14
theorem Q_X7_init {c : Nat} {G_h h : MHp} (S_h : Sh c G_h h) {G_a0 a0 : Nat} (e_a0 : a0 = c + G_a0) : Eq2 c (mX7_init G_h G_a0) (mX7_init h a0) := by
  unfold mX7_init
  refine E_nO S_h (fun G_h1 h1 S_h1 => ?_)
  refine E_call (Q_X10_init S_h1 S_h.1) (fun G_r2 r2 S_r2 => ?_)
  refine E_pR S_r2 e_a0 (mv S_h.1) (fun G_h4 h4 S_h4 => ?_)
  refine E_nA S_h4 (fun G_h5 h5 S_h5 => ?_)
  refine E_pR S_h5 e_a0 (mv S_h4.1) (fun G_h6 h6 S_h6 => ?_)
  refine E_nA S_h6 (fun G_h7 h7 S_h7 => ?_)
  refine E_pR S_h7 e_a0 (mv S_h6.1) (fun G_h8 h8 S_h8 => ?_)
  exact E_ret S_h8
theorem Q_X13_init {c : Nat} {G_h h : MHp} (S_h : Sh c G_h h) {G_a0 a0 : Nat} (e_a0 : a0 = c + G_a0) : Eq2 c (mX13_init G_h G_a0) (mX13_init h a0) := by
  unfold mX13_init
  refine E_call (Q_E0_init S_h e_a0) (fun G_r1 r1 S_r1 => ?_)
  exact E_ret S_r1
theorem Q_X11_init_l72 {c : Nat} {G_a0 a0 : Nat} : ∀ (n : Nat) {G_h h : MHp} (S_h : Sh c G_h h) (e_a0 : a0 = c + G_a0) (v1 : Int32), Eq2 c (mX11_init_l72 n G_h G_a0 v1) (mX11_init_l72 n h a0 v1) := by
  intro n G_h h S_h e_a0
  induction n generalizing G_h h with
  | zero => intro v1; exact E_none
  | succ n ih =>
    intro v1
    unfold mX11_init_l72
    refine E_gR S_h e_a0 (fun G_x1 x1 e_x1 => ?_)
    refine E_gN S_h e_x1 (fun x2 => ?_)
    refine E_le ?_ ?_
    · skip
      refine E_nA S_h (fun G_h3 h3 S_h3 => ?_)
      refine E_pR S_h3 e_a0 (mv S_h.1) (fun G_h4 h4 S_h4 => ?_)
      refine E_nAS S_h4 (fun G_h5 h5 S_h5 => ?_)
      refine E_pR S_h5 e_a0 (mv S_h4.1) (fun G_h6 h6 S_h6 => ?_)
      refine E_nO S_h6 (fun G_h7 h7 S_h7 => ?_)
      refine E_gR S_h7 e_a0 (fun G_x8 x8 e_x8 => ?_)
      refine E_call (Q_X5_init S_h7 S_h6.1 e_x8) (fun G_r9 r9 S_r9 => ?_)
      refine E_pR S_r9 e_a0 (mv S_h6.1) (fun G_h11 h11 S_h11 => ?_)
      refine E_nO S_h11 (fun G_h12 h12 S_h12 => ?_)
      refine E_gR S_h12 e_a0 (fun G_x13 x13 e_x13 => ?_)
      refine E_call (Q_X2_init S_h12 S_h11.1 e_x13) (fun G_r14 r14 S_r14 => ?_)
      refine E_pR S_r14 e_a0 (mv S_h11.1) (fun G_h16 h16 S_h16 => ?_)
      refine E_nO S_h16 (fun G_h17 h17 S_h17 => ?_)
      refine E_gR S_h17 e_a0 (fun G_x18 x18 e_x18 => ?_)
      refine E_call (Q_X0_init S_h17 S_h16.1 e_x18) (fun G_r19 r19 S_r19 => ?_)
      refine E_pR S_r19 e_a0 (mv S_h16.1) (fun G_h21 h21 S_h21 => ?_)
      refine E_nO S_h21 (fun G_h22 h22 S_h22 => ?_)
      refine E_gR S_h22 e_a0 (fun G_x23 x23 e_x23 => ?_)
      refine E_call (Q_X6_init S_h22 S_h21.1 e_x23) (fun G_r24 r24 S_r24 => ?_)
      refine E_pR S_r24 e_a0 (mv S_h21.1) (fun G_h26 h26 S_h26 => ?_)
      refine E_nO S_h26 (fun G_h27 h27 S_h27 => ?_)
      refine E_gR S_h27 e_a0 (fun G_x28 x28 e_x28 => ?_)
      refine E_call (Q_X3_init S_h27 S_h26.1 e_x28) (fun G_r29 r29 S_r29 => ?_)
      refine E_pR S_r29 e_a0 (mv S_h26.1) (fun G_h31 h31 S_h31 => ?_)
      refine E_nO S_h31 (fun G_h32 h32 S_h32 => ?_)
      refine E_call (Q_X4_init S_h32 S_h31.1) (fun G_r33 r33 S_r33 => ?_)
      refine E_pR S_r33 e_a0 (mv S_h31.1) (fun G_h35 h35 S_h35 => ?_)
      exact E_ret S_h35
    · skip
      refine E_gR S_h e_a0 (fun G_x36 x36 e_x36 => ?_)
      refine E_nO S_h (fun G_h37 h37 S_h37 => ?_)
      refine E_call (Q_X7_init S_h37 S_h.1) (fun G_r38 r38 S_r38 => ?_)
      refine E_pAR S_r38 e_x36 S_h.1 (fun G_h40 h40 S_h40 => ?_)
      exact ih S_h40 _
theorem Q_X11_init {c : Nat} {G_h h : MHp} (S_h : Sh c G_h h) {G_a0 a0 : Nat} (e_a0 : a0 = c + G_a0) : Eq2 c (mX11_init G_h G_a0) (mX11_init h a0) := by
  unfold mX11_init
  refine E_nA S_h (fun G_h42 h42 S_h42 => ?_)
  refine E_pR S_h42 e_a0 (mv S_h.1) (fun G_h43 h43 S_h43 => ?_)
  refine E_nO S_h43 (fun G_h44 h44 S_h44 => ?_)
  refine E_call (Q_X1_init S_h44 S_h43.1) (fun G_r45 r45 S_r45 => ?_)
  refine E_pR S_r45 e_a0 (mv S_h43.1) (fun G_h47 h47 S_h47 => ?_)
  refine E_nO S_h47 (fun G_h48 h48 S_h48 => ?_)
  refine E_gR S_h48 e_a0 (fun G_x49 x49 e_x49 => ?_)
  refine E_gR S_h48 e_a0 (fun G_x50 x50 e_x50 => ?_)
  refine E_call (Q_X8_init S_h48 S_h47.1 e_x49 e_x50) (fun G_r51 r51 S_r51 => ?_)
  refine E_pR S_r51 e_a0 (mv S_h47.1) (fun G_h53 h53 S_h53 => ?_)
  refine E_nO S_h53 (fun G_h54 h54 S_h54 => ?_)
  refine E_nO S_h54 (fun G_h55 h55 S_h55 => ?_)
  refine E_call (Q_X1_init S_h55 S_h54.1) (fun G_r56 r56 S_r56 => ?_)
  refine E_call (Q_X9_init S_r56 S_h53.1 (mv S_h54.1)) (fun G_r58 r58 S_r58 => ?_)
  refine E_pR S_r58 e_a0 (mv S_h53.1) (fun G_h60 h60 S_h60 => ?_)
  refine E_nA S_h60 (fun G_h61 h61 S_h61 => ?_)
  refine E_pR S_h61 e_a0 (mv S_h60.1) (fun G_h62 h62 S_h62 => ?_)
  exact Q_X11_init_l72 _ S_h62 e_a0 _
theorem Q_X16_init {c : Nat} {G_h h : MHp} (S_h : Sh c G_h h) {G_a0 a0 : Nat} (e_a0 : a0 = c + G_a0) : Eq2 c (mX16_init G_h G_a0) (mX16_init h a0) := by
  unfold mX16_init
  refine E_pI S_h e_a0 (fun G_h1 h1 S_h1 => ?_)
  refine E_nA S_h1 (fun G_h2 h2 S_h2 => ?_)
  refine E_pR S_h2 e_a0 (mv S_h1.1) (fun G_h3 h3 S_h3 => ?_)
  refine E_nO S_h3 (fun G_h4 h4 S_h4 => ?_)
  refine E_call (Q_X13_init S_h4 S_h3.1) (fun G_r5 r5 S_r5 => ?_)
  refine E_pR S_r5 e_a0 (mv S_h3.1) (fun G_h7 h7 S_h7 => ?_)
  refine E_nA S_h7 (fun G_h8 h8 S_h8 => ?_)
  refine E_pR S_h8 e_a0 (mv S_h7.1) (fun G_h9 h9 S_h9 => ?_)
  refine E_nA S_h9 (fun G_h10 h10 S_h10 => ?_)
  refine E_pR S_h10 e_a0 (mv S_h9.1) (fun G_h11 h11 S_h11 => ?_)
  refine E_nA S_h11 (fun G_h12 h12 S_h12 => ?_)
  refine E_pR S_h12 e_a0 (mv S_h11.1) (fun G_h13 h13 S_h13 => ?_)
  refine E_nA S_h13 (fun G_h14 h14 S_h14 => ?_)
  refine E_pR S_h14 e_a0 (mv S_h13.1) (fun G_h15 h15 S_h15 => ?_)
  refine E_nA S_h15 (fun G_h16 h16 S_h16 => ?_)
  refine E_pR S_h16 e_a0 (mv S_h15.1) (fun G_h17 h17 S_h17 => ?_)
  refine E_nA S_h17 (fun G_h18 h18 S_h18 => ?_)
  refine E_pR S_h18 e_a0 (mv S_h17.1) (fun G_h19 h19 S_h19 => ?_)
  refine E_nA S_h19 (fun G_h20 h20 S_h20 => ?_)
  refine E_pR S_h20 e_a0 (mv S_h19.1) (fun G_h21 h21 S_h21 => ?_)
  refine E_nA S_h21 (fun G_h22 h22 S_h22 => ?_)
  refine E_pR S_h22 e_a0 (mv S_h21.1) (fun G_h23 h23 S_h23 => ?_)
  refine E_nA S_h23 (fun G_h24 h24 S_h24 => ?_)
  refine E_pR S_h24 e_a0 (mv S_h23.1) (fun G_h25 h25 S_h25 => ?_)
  refine E_nA S_h25 (fun G_h26 h26 S_h26 => ?_)
  refine E_pR S_h26 e_a0 (mv S_h25.1) (fun G_h27 h27 S_h27 => ?_)
  refine E_nA S_h27 (fun G_h28 h28 S_h28 => ?_)
  refine E_pR S_h28 e_a0 (mv S_h27.1) (fun G_h29 h29 S_h29 => ?_)
  refine E_nA S_h29 (fun G_h30 h30 S_h30 => ?_)
  refine E_pR S_h30 e_a0 (mv S_h29.1) (fun G_h31 h31 S_h31 => ?_)
  refine E_nA S_h31 (fun G_h32 h32 S_h32 => ?_)
  refine E_pR S_h32 e_a0 (mv S_h31.1) (fun G_h33 h33 S_h33 => ?_)
  refine E_pI S_h33 e_a0 (fun G_h34 h34 S_h34 => ?_)
  refine E_nA S_h34 (fun G_h35 h35 S_h35 => ?_)
  refine E_pR S_h35 e_a0 (mv S_h34.1) (fun G_h36 h36 S_h36 => ?_)
  refine E_pI S_h36 e_a0 (fun G_h37 h37 S_h37 => ?_)
  refine E_nA S_h37 (fun G_h38 h38 S_h38 => ?_)
  refine E_pR S_h38 e_a0 (mv S_h37.1) (fun G_h39 h39 S_h39 => ?_)
  refine E_nA S_h39 (fun G_h40 h40 S_h40 => ?_)
  refine E_pR S_h40 e_a0 (mv S_h39.1) (fun G_h41 h41 S_h41 => ?_)
  refine E_pI S_h41 e_a0 (fun G_h42 h42 S_h42 => ?_)
  refine E_pI S_h42 e_a0 (fun G_h43 h43 S_h43 => ?_)
  refine E_pI S_h43 e_a0 (fun G_h44 h44 S_h44 => ?_)
  refine E_nA S_h44 (fun G_h45 h45 S_h45 => ?_)
  refine E_pR S_h45 e_a0 (mv S_h44.1) (fun G_h46 h46 S_h46 => ?_)
  refine E_nA S_h46 (fun G_h47 h47 S_h47 => ?_)
  refine E_pR S_h47 e_a0 (mv S_h46.1) (fun G_h48 h48 S_h48 => ?_)
  refine E_nA S_h48 (fun G_h49 h49 S_h49 => ?_)
  refine E_pR S_h49 e_a0 (mv S_h48.1) (fun G_h50 h50 S_h50 => ?_)
  refine E_nA S_h50 (fun G_h51 h51 S_h51 => ?_)
  refine E_pR S_h51 e_a0 (mv S_h50.1) (fun G_h52 h52 S_h52 => ?_)
  refine E_nA S_h52 (fun G_h53 h53 S_h53 => ?_)
  refine E_pR S_h53 e_a0 (mv S_h52.1) (fun G_h54 h54 S_h54 => ?_)
  refine E_nA S_h54 (fun G_h55 h55 S_h55 => ?_)
  refine E_pR S_h55 e_a0 (mv S_h54.1) (fun G_h56 h56 S_h56 => ?_)
  exact E_ret S_h56

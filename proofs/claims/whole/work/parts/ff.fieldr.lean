/-! reading a field: the reference's -/
theorem spT_mono (B : Bk) : ∀ q f : Nat, spT B f ≤ spT B (f + q)
  | 0, f => Nat.le_refl _
  | q + 1, f => by
    have := spT_mono B q f
    show _ ≤ spT B (f + q) * (bT B (f + q) + 1)
    exact Nat.le_trans this (Nat.le_mul_of_pos_right _ (by omega))
theorem spT_le {B : Bk} {f : Nat} (h : f ≤ bF B) : spT B f ≤ spT B (bF B) := by
  have := spT_mono B (bF B - f) f
  rw [show f + (bF B - f) = bF B by omega] at this
  exact this
/-- the reference's book that is being written -/
def Qb (m b : Nat) (g : Nat → Int32) (n : Nat) (B : Bk) (t : Tok) (h : MHp) : Prop := PR m g n t h ∧ hR h m 5 = some b ∧ RB (m + 26) h b B
theorem RB.n2 {lo b : Nat} {B : Bk} {h : MHp} (R : RB lo h b B) : NR2 b B h := ⟨R.1, R.2.1, fun f hf => (R.2.2.2.1 f hf).1⟩
/-- what a field leaves alone of a test -/
theorem RB.apart {lo b k t : Nat} {B : Bk} {h : MHp} (I : RIB h b) (R : RT h t (bR B k)) : t + 5 ≤ b ∨ b + 5 ≤ t := by
  obtain ⟨i1, i2, i3, i4, i5, i6, i7, i8, i9, -⟩ := I
  obtain ⟨j1, j2, j3, j4, j5, j6, j7, j8, j9, -⟩ := R.1
  apply Classical.byContradiction
  intro hn
  have ne : ∀ x y : Nat, x = y → hK h x = hK h y := fun x y e => by rw [e]
  rcases (show t = b ∨ t = b + 1 ∨ t = b + 2 ∨ t = b + 3 ∨ t = b + 4 ∨ b = t + 1 ∨ b = t + 2 ∨ b = t + 3 ∨ b = t + 4 by omega) with e | e | e | e | e | e | e | e | e
  · have := ne _ _ e; omega
  · have := ne _ _ e; omega
  · have := ne _ _ e; omega
  · have := ne _ _ e; omega
  · have := ne _ _ e; omega
  · have := ne _ _ e; omega
  · have := ne _ _ e; omega
  · have := ne _ _ e; omega
  · have := ne _ _ e; omega
theorem FQ.RT {m u t : Nat} {T : Ts} {h h' : MHp} (F : FQ m u h h') (d : m + 3 ≤ t) (d2 : t + 5 ≤ hS h) (d3 : t + 5 ≤ u ∨ u + 5 ≤ t) (R : RT h t T) : RT h' t T := by
  refine RT.ag (fun a x y => ?_) R
  obtain ⟨a1, a2, a3, a4, a5⟩ := F.2.1 a (by omega)
  obtain ⟨b1, b2, b3⟩ := a5 (by omega)
  obtain ⟨c1, c2⟩ := b3 (by omega) (by omega)
  exact ⟨a1, a2, c1, c2, a3, b1, b2, a4⟩
theorem q_need {m n i : Nat} {g : Nat → Int32} {t : Tok} {h : MHp} (hb : ∀ k : Nat, (g k).toInt8.toInt32 = g k) (P : PR m g n t h) (G : GT g n t) (hi : i < 9) : (¬ isW t i = true ∧ mX16_needWord h m i = some (Sum.inr (m + 2), sI (sI h (m + 2) 6 1) (m + 2) 7 (hI h m 14))) ∨ isW t i = true ∧ ∃ h1 : MHp, mX16_needWord h m i = some (Sum.inl (), h1) ∧ Sn m h h1 ∧ PR m g n (nxt g n t) h1 := by
  have L := P.1.1
  have iw := q_isWord P G hi
  by_cases w : isW t i = true
  · rw [if_pos w] at iw
    right
    obtain ⟨h1, e1, S1, P1⟩ := P.st hb (by have := isW_1 w; omega)
    exact ⟨w, h1, by rw [mX16_needWord, b_rcv, if_pos (qK0 L), iw, o_bind, if_neg n10, b_rcv, if_pos (qK0 L), e1, o_bind], S1, P1⟩
  · rw [if_neg w] at iw
    left
    exact ⟨w, by rw [mX16_needWord, b_rcv, if_pos (qK0 L), iw, o_bind, if_pos rfl, b_rcv, if_pos (qK0 L), q_thr L]⟩
/-- the space of the fields before, times the new one's -/
theorem q_space {m b n v : Nat} {g : Nat → Int32} {B : Bk} {t : Tok} {h : MHp} (P : PR m g n t h) (b5 : hR h m 5 = some b) (I : RIB h b) (tops : ∀ f : Nat, f < bF B → hAI h (b + 2) f = Int32.ofNat (bT B f)) (w6 : bF B < 6) (sp : spT B (bF B) ≤ 20000) (hv : v ≤ 9) (x16 : hI h m 16 = Int32.ofNat v) (e : Option ((Unit ⊕ Nat) × MHp)) (he : ∀ fu : Nat, mX16_readField_l142 (fu + 1) h m (Int32.ofNat (bF B)) (Int32.ofNat ((v + 1) * spT B (bF B))) (Int32.ofNat (bF B)) = e) : ∀ (q f fu : Nat), f + q = bF B → q < fu → mX16_readField_l142 fu h m (Int32.ofNat (bF B)) (Int32.ofNat ((v + 1) * spT B f)) (Int32.ofNat f) = e := by
  intro q
  have L := P.1.1
  obtain ⟨i1, i2, i3, i4, i5, i6, i7, i8, i9, i10, i11, i12, i13⟩ := I
  induction q with
  | zero =>
    intro f fu hf hfu
    obtain ⟨fu, rfl⟩ : ∃ g : Nat, fu = g + 1 := ⟨fu - 1, by omega⟩
    have : f = bF B := by omega
    subst this
    exact he fu
  | succ q ih =>
    intro f fu hf hfu
    obtain ⟨fu, rfl⟩ : ∃ g : Nat, fu = g + 1 := ⟨fu - 1, by omega⟩
    have e2 := ih (f + 1) fu (by omega) (by omega)
    have bf := bad_n (k := f) (n := 6) (by omega) (by omega)
    have clf : (Int32.ofNat f).toNatClampNeg = f := cl_of (by omega)
    have es : (v + 1) * spT B (f + 1) = (v + 1) * spT B f * (bT B f + 1) := (Nat.mul_assoc _ _ _).symm
    rw [es, Int32.ofNat_mul] at e2
    rw [mX16_readField_l142, if_neg (by rw [le_of (by omega) (by omega)]; omega), b_gR, if_pos (qK0 L), b5, b_gR, if_pos i1, i3, b_gAI, if_pos i7, i11, if_neg bf, clf, tops f (by omega), s1_of, s1_of, e2]

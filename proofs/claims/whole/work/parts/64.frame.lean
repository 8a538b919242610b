/-! what is written elsewhere changes nothing here -/
def Ag (lo hi : Nat) (h h' : MHp) : Prop := ∀ a : Nat, lo ≤ a → a < hi → hK h' a = hK h a ∧ hN h' a = hN h a ∧ hI h' a = hI h a ∧ hL h' a = hL h a ∧ hR h' a = hR h a ∧ hAI h' a = hAI h a ∧ hAL h' a = hAL h a ∧ hAR h' a = hAR h a
theorem Ag.rf {lo hi : Nat} {h : MHp} : Ag lo hi h h := fun _ _ _ => ⟨rfl, rfl, rfl, rfl, rfl, rfl, rfl, rfl⟩
theorem Ag.tr {lo hi : Nat} {h h1 h2 : MHp} (A : Ag lo hi h h1) (B : Ag lo hi h1 h2) : Ag lo hi h h2 := fun a x y => by
  obtain ⟨a1, a2, a3, a4, a5, a6, a7, a8⟩ := A a x y
  obtain ⟨b1, b2, b3, b4, b5, b6, b7, b8⟩ := B a x y
  exact ⟨b1.trans a1, b2.trans a2, b3.trans a3, b4.trans a4, b5.trans a5, b6.trans a6, b7.trans a7, b8.trans a8⟩
theorem Ag.sub {lo hi lo' hi' : Nat} {h h' : MHp} (A : Ag lo hi h h') (h1 : lo ≤ lo') (h2 : hi' ≤ hi) : Ag lo' hi' h h' := fun a x y => A a (by omega) (by omega)
theorem up2_ne {α : Type} (f : Nat → Nat → α) {a b : Nat} (k : Nat) (v : α) (h : b ≠ a) : up2 f a k v b = f b := by funext j; simp [up2, h]
theorem va_ne {α : Type} (f : Nat → α) {a b : Nat} (v : α) (h : b ≠ a) : va_up f a v b = f b := by simp [va_up, h]
theorem Ag.I {lo hi : Nat} {h : MHp} (a k : Nat) (v : Int32) (o : a < lo ∨ hi ≤ a) : Ag lo hi h (sI h a k v) := fun b x y => ⟨rfl, rfl, up2_ne _ _ _ (by omega), rfl, rfl, rfl, rfl, rfl⟩
theorem Ag.L {lo hi : Nat} {h : MHp} (a k : Nat) (v : Int64) (o : a < lo ∨ hi ≤ a) : Ag lo hi h (sL h a k v) := fun b x y => ⟨rfl, rfl, rfl, up2_ne _ _ _ (by omega), rfl, rfl, rfl, rfl⟩
theorem Ag.R {lo hi : Nat} {h : MHp} (a k : Nat) (v : Option Nat) (o : a < lo ∨ hi ≤ a) : Ag lo hi h (sR h a k v) := fun b x y => ⟨rfl, rfl, rfl, rfl, up2_ne _ _ _ (by omega), rfl, rfl, rfl⟩
theorem Ag.AI {lo hi : Nat} {h : MHp} (a : Nat) (v : Nat → Int32) (o : a < lo ∨ hi ≤ a) : Ag lo hi h (sAI h a v) := fun b x y => ⟨rfl, rfl, rfl, rfl, rfl, va_ne _ _ (by omega), rfl, rfl⟩
theorem Ag.AL {lo hi : Nat} {h : MHp} (a : Nat) (v : Nat → Int64) (o : a < lo ∨ hi ≤ a) : Ag lo hi h (sAL h a v) := fun b x y => ⟨rfl, rfl, rfl, rfl, rfl, rfl, va_ne _ _ (by omega), rfl⟩
theorem Ag.AR {lo hi : Nat} {h : MHp} (a : Nat) (v : Nat → Option Nat) (o : a < lo ∨ hi ≤ a) : Ag lo hi h (sAR h a v) := fun b x y => ⟨rfl, rfl, rfl, rfl, rfl, rfl, rfl, va_ne _ _ (by omega)⟩
theorem Ag.O {lo hi : Nat} {h : MHp} (kd n : Nat) (o : hi ≤ hS h) : Ag lo hi h (nO h kd n) := fun b x y => ⟨va_ne _ _ (by omega), rfl, va_ne _ _ (by omega), va_ne _ _ (by omega), va_ne _ _ (by omega), rfl, rfl, rfl⟩
theorem Ag.A {lo hi : Nat} {h : MHp} (kd n : Nat) (o : hi ≤ hS h) : Ag lo hi h (nA h kd n) := fun b x y => ⟨va_ne _ _ (by omega), va_ne _ _ (by omega), rfl, rfl, rfl, va_ne _ _ (by omega), va_ne _ _ (by omega), va_ne _ _ (by omega)⟩
theorem CT.ag {h h' : MHp} {t : Nat} {T : Ts} (A : Ag t (t + 4) h h') (C : CT h t T) : CT h' t T := by
  obtain ⟨c1, c2, c3⟩ := C
  have a0 := A t (by omega) (by omega)
  have a1 := A (t + 1) (by omega) (by omega)
  have a2 := A (t + 2) (by omega) (by omega)
  have a3 := A (t + 3) (by omega) (by omega)
  unfold CT
  rw [a0.2.2.1, a1.2.2.2.2.2.1, a2.2.2.2.2.2.1, a3.2.2.2.2.2.1]
  exact ⟨c1, c2, c3⟩
theorem CB.ag {h h' : MHp} {b : Nat} {B : Bk} (A : Ag b (b + 53) h h') (W : bN B ≤ 12) (C : CB h b B) : CB h' b B := by
  obtain ⟨c1, c2, c3, c4⟩ := C
  have a0 := A b (by omega) (by omega)
  have a2 := A (b + 2) (by omega) (by omega)
  have a3 := A (b + 3) (by omega) (by omega)
  unfold CB
  rw [a0.2.2.1, a2.2.2.2.2.2.1, a3.2.2.2.2.2.1]
  exact ⟨c1, c2, c3, fun k hk => (c4 k hk).ag (A.sub (by omega) (by omega))⟩

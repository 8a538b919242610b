theorem nn_clamp (z : Int32) (hz : ¬ z < 0) : z.toInt = (z.toNatClampNeg : Int) := by
  have hz0 : (0 : Int) ≤ z.toInt := by
    have := Int32.not_lt.mp hz
    simpa using Int32.le_iff_toInt_le.mp this
  show z.toInt = ((z.toInt.toNat : Nat) : Int)
  omega
section Cp
variable {p : Program} {l : Launch} {e : Env} {R : Room} {s : State} {m : MethodId} {args : Array Value} {below : List Frame} {meth : Method} {c : Code} {H : Heap} {locs : List Loc} {cells slots : Nat} {Q : State → Prop}
variable {cc : ByteArray} {pc nL : Nat} {ls : Array Slot} {rest : List Value} {own : String} {G : Env0} {h : MHp} {ρ : Type} {res : ρ}
/-- what arraycopy asks of the tables -/
def ACw : Prop := Cond.native arraycopyName ∈ tbl ∧ Cond.static arraycopyName ∈ tbl ∧ Cond.initialized "java/lang/System" ∈ tbl
theorem r_copyI (C : Cx p s m meth c args own nL cc (gD G) (gC G)) (hm : mHp (gD G) (gC G) (gB G) h H) (hS : va_S (fun q => gB G ≤ q) s.heap H locs) {index : Nat} (hlink : Cond.methodLink own index arraycopyName ∈ tbl) (AW : ACw) (hdg : decode cc pc = .ok (.invokestatic index, 3)) (hsz : ls.size = nL) (hfr : 1 ≤ R.frames) (hlo : (rest.map fun v => v.category).sum + 18 ≤ R.locals) {o q : Option Nat} {sp dp n : Int32} {f : MHp → Option ρ} (hh : (cpI 20 h o sp q dp n).bind f = some res)
    (kk : ∀ (h' : MHp) (H1 : Heap) (locs1 : List Loc), cpI 20 h o sp q dp n = some h' → f h' = some res → mHp (gD G) (gC G) (gB G) h' H1 → va_S (fun q => gB G ≤ q) s.heap H1 locs1 → W p l e R s m args below meth c H1 locs1 cells slots Q (F0 m (pc + 3) ls rest)) : W p l e R s m args below meth c H locs cells slots Q (F0 m pc ls (.int n :: .int dp :: va_rf q :: .int sp :: va_rf o :: rest)) := by
  obtain ⟨h9, hx, hf⟩ := Option.bind_eq_some_iff.mp hh
  have hx0 := hx
  unfold cpI at hx
  obtain ⟨a0, ha0, hx2⟩ := Option.bind_eq_some_iff.mp hx
  obtain ⟨a, ha, hx3⟩ := Option.bind_eq_some_iff.mp hx2
  clear hx hx2
  obtain ⟨rfl, hk0⟩ := rcv_some ha0
  obtain ⟨rfl, hk⟩ := rcv_some ha
  split at hx3
  · cases hx3
  rename_i hn
  cases hx3
  have h1 : ¬ sp < 0 := fun q => hn (Or.inl q)
  have h2 : ¬ dp < 0 := fun q => hn (Or.inr (Or.inl q))
  have h3 : ¬ n < 0 := fun q => hn (Or.inr (Or.inr (Or.inl q)))
  have h4 : sp.toNatClampNeg + n.toNatClampNeg ≤ hN h a0 := Nat.not_lt.mp fun q => hn (Or.inr (Or.inr (Or.inr (Or.inl q))))
  have h5 : dp.toNatClampNeg + n.toNatClampNeg ≤ hN h a := Nat.not_lt.mp fun q => hn (Or.inr (Or.inr (Or.inr (Or.inr q))))
  obtain ⟨hP0, hb0⟩ := mA1 hm hk0 (by omega)
  obtain ⟨hP1, hb1⟩ := mA1 hm hk (by omega)
  have hc0 : H[a0]? = some (vp_cell ((gC G) 20) (hN h a0, .inl (hAI h a0))) := hP0 0 _ rfl
  have hc1 : H[a]? = some (vp_cell ((gC G) 20) (hN h a, .inl (hAI h a))) := hP1 0 _ rfl
  have hKA := C.2.2.2.2.2.1.2 0 _ rfl
  have hts := C.2.2.2.2.1
  intro T hT X
  obtain ⟨-, k0, hk0, cm0, hkk0⟩ := hKA.1 (hN h a0) (fun j => .int (hAI h a0 j))
  obtain ⟨-, k1, hk1, cm1, hkk1⟩ := hKA.1 (hN h a) (fun j => .int (hAI h a j))
  obtain ⟨vm', X', step⟩ := X.arraycopy C.1 C.2.2.2.1 (hts _ hlink) (hts _ AW.1) (hts _ AW.2.1) (hts _ AW.2.2) (src := a0) (dst := a) (cs := vp_cell ((gC G) 20) (hN h a0, .inl (hAI h a0))) (cd := vp_cell ((gC G) 20) (hN h a, .inl (hAI h a))) (srcPos := sp) (destPos := dp) (n := n) (by rw [hT]; exact hc0) (by rw [hT]; exact hc1)
    (fun _ h => by cases h) (fun _ h => by cases h) (fun h => by cases h) (fun h => by cases h) hk0 hk1 hkk0 hkk1 (by simp [refKind]) h1 h2 h3
    (by rw [nn_clamp sp h1, nn_clamp n h3]; show ¬ _ > ((arrV _ (hN h a0) (fun j => .int (hAI h a0 j))).slots.size : Int); rw [arrV_size]; omega)
    (by rw [nn_clamp dp h2, nn_clamp n h3]; show ¬ _ > ((arrV _ (hN h a) (fun j => .int (hAI h a j))).slots.size : Int); rw [arrV_size]; omega)
    (fun vm₁ _ i hi => by
      have e : (vp_cell ((gC G) 20) (hN h a0, .inl (hAI h a0))).slots.getD (sp.toNatClampNeg + i) .null = .int (hAI h a0 (sp.toNatClampNeg + i)) := by
        show (arrV _ (hN h a0) (fun j => .int (hAI h a0 j))).slots.getD _ _ = _
        rw [Array.getD_eq_getD_getElem?, arrV_read _ _ (by omega)]
        rfl
      refine ⟨?_, ?_⟩
      · rw [e]
        rfl
      · rw [e]
        exact trivial)
    (g := F0 m pc ls (.int n :: .int dp :: .ref a :: .int sp :: .ref a0 :: rest)) rfl (hsz.trans C.2.2.1.symm) (rest := rest) rfl (by rw [C.2.1]; exact hdg) hfr (by
      have e : nativeFrameWords "java/lang/System" "arraycopy" 5 = 7 := by decide
      show 2 * 0 + _ + _ ≤ _
      rw [e]; omega)
  have e1 : copied (vp_cell ((gC G) 20) (hN h a0, .inl (hAI h a0))) (vp_cell ((gC G) 20) (hN h a, .inl (hAI h a))) sp dp n = vp_cell ((gC G) 20) (hN h a, .inl (va_cpy (hAI h a0) (hAI h a) sp.toNatClampNeg dp.toNatClampNeg n.toNatClampNeg)) := va_copied (fun z => .int z) ((gC G) 20) ((gC G) 20) (hAI h a0) (hAI h a) h4
  rw [e1] at X' step
  have hl : a < H.size := (Array.getElem?_eq_some_iff.mp hc1).1
  generalize hcl : vp_cell ((gC G) 20) (hN h a, .inl (va_cpy (hAI h a0) (hAI h a) sp.toNatClampNeg dp.toNatClampNeg n.toNatClampNeg)) = cl at X' step
  have hheap : ((T.setVm vm').setCell a cl).heap = H.setIfInBounds a cl := by rw [← hT]; rfl
  have oq : ∀ q : Nat, q ≠ a → (H.setIfInBounds a cl)[q]? = H[q]? := fun q hq => by simp [Array.getElem?_setIfInBounds, Ne.symm hq]
  obtain ⟨t, a1, b1⟩ := kk _ (H.setIfInBounds a cl) _ hx0 hf (mHp_set hm (a := a) (by omega) rfl rfl (by simp) oq (fun b hb => mE_sAI b hb) (by
      rw [mE_arr (by exact hk) (by omega)]
      show (H.setIfInBounds a cl)[a]? = some (vp_cell _ (hN h a, .inl (va_up (hAI h) a _ a)))
      rw [va_up_self, ← hcl]
      simp [Array.getElem?_setIfInBounds, hl])) ⟨by simp; exact hS.1, fun q g1 g2 => by
      rw [oq q (fun e => g2 (by rw [e]; exact hb1))]
      exact hS.2.1 q g1 g2, fun q hq => by
      rcases List.mem_append.mp hq with h | h
      · exact hS.2.2 q h
      · obtain ⟨z, -, hz⟩ := List.mem_map.mp h
        rw [← hz]
        exact hb1⟩ _ hheap X'
  exact ⟨t, step t a1, b1⟩
/-- out of the class's own numbers -/
theorem r_copyS (C : Cx p s m meth c args own nL cc (gD G) (gC G)) (X0 : Ex G s s.heap) (hm : mHp (gD G) (gC G) (gB G) h H) (hS : va_S (fun q => gB G ≤ q) s.heap H locs) {index k : Nat} (hk3 : k < 3) (hlink : Cond.methodLink own index arraycopyName ∈ tbl) (AW : ACw) (hdg : decode cc pc = .ok (.invokestatic index, 3)) (hsz : ls.size = nL) (hfr : 1 ≤ R.frames) (hlo : (rest.map fun v => v.category).sum + 18 ≤ R.locals) {q : Option Nat} {sp dp n : Int32} {f : MHp → Option ρ} (hh : (cpS k h sp q dp n).bind f = some res)
    (kk : ∀ (h' : MHp) (H1 : Heap) (locs1 : List Loc), cpS k h sp q dp n = some h' → f h' = some res → mHp (gD G) (gC G) (gB G) h' H1 → va_S (fun q => gB G ≤ q) s.heap H1 locs1 → W p l e R s m args below meth c H1 locs1 cells slots Q (F0 m (pc + 3) ls rest)) : W p l e R s m args below meth c H locs cells slots Q (F0 m pc ls (.int n :: .int dp :: va_rf q :: .int sp :: .ref (G.2.2.2.1 k) :: rest)) := by
  obtain ⟨h9, hx, hf⟩ := Option.bind_eq_some_iff.mp hh
  have hx0 := hx
  unfold cpS at hx
  obtain ⟨a, ha, hx3⟩ := Option.bind_eq_some_iff.mp hx
  clear hx
  obtain ⟨rfl, hk⟩ := rcv_some ha
  split at hx3
  · cases hx3
  rename_i hn
  cases hx3
  have h1 : ¬ sp < 0 := fun q => hn (Or.inl q)
  have h2 : ¬ dp < 0 := fun q => hn (Or.inr (Or.inl q))
  have h3 : ¬ n < 0 := fun q => hn (Or.inr (Or.inr (Or.inl q)))
  have h4 : sp.toNatClampNeg + n.toNatClampNeg ≤ 4 := Nat.not_lt.mp fun q => hn (Or.inr (Or.inr (Or.inr (Or.inl q))))
  have h5 : dp.toNatClampNeg + n.toNatClampNeg ≤ hN h a := Nat.not_lt.mp fun q => hn (Or.inr (Or.inr (Or.inr (Or.inr q))))
  obtain ⟨hP1, hb1⟩ := mA1 hm hk (by omega)
  obtain ⟨cl0, z1, z2, z3, z4, z5, z6, z7⟩ := ((X0.1 k hk3).2.1).kept hS.2.1
  have hc1 : H[a]? = some (vp_cell ((gC G) 20) (hN h a, .inl (hAI h a))) := hP1 0 _ rfl
  have hKA := C.2.2.2.2.2.1.2 0 _ rfl
  have hts := C.2.2.2.2.1
  intro T hT X
  obtain ⟨z8, k0, hk0, cm0, hkk0⟩ := z2
  obtain ⟨-, k1, hk1, cm1, hkk1⟩ := hKA.1 (hN h a) (fun j => .int (hAI h a j))
  obtain ⟨vm', X', step⟩ := X.arraycopy C.1 C.2.2.2.1 (hts _ hlink) (hts _ AW.1) (hts _ AW.2.1) (hts _ AW.2.2) (src := G.2.2.2.1 k) (dst := a) (cs := cl0) (cd := vp_cell ((gC G) 20) (hN h a, .inl (hAI h a))) (srcPos := sp) (destPos := dp) (n := n) (by rw [hT]; exact z1) (by rw [hT]; exact hc1)
    z8 (fun _ h => by cases h) z3 (fun h => by cases h) hk0 hk1 hkk0 hkk1 (by simp [refKind]) h1 h2 h3
    (by rw [nn_clamp sp h1, nn_clamp n h3]; omega)
    (by rw [nn_clamp dp h2, nn_clamp n h3]; show ¬ _ > ((arrV _ (hN h a) (fun j => .int (hAI h a j))).slots.size : Int); rw [arrV_size]; omega)
    (fun vm₁ _ i hi => by
      have e : cl0.slots.getD (sp.toNatClampNeg + i) .null = .int (stV k (sp.toNatClampNeg + i)) := by
        rw [Array.getD_eq_getD_getElem?, z6 _ (by omega)]
        rfl
      refine ⟨?_, ?_⟩
      · rw [e]
        rfl
      · rw [e]
        exact trivial)
    (g := F0 m pc ls (.int n :: .int dp :: .ref a :: .int sp :: .ref (G.2.2.2.1 k) :: rest)) rfl (hsz.trans C.2.2.1.symm) (rest := rest) rfl (by rw [C.2.1]; exact hdg) hfr (by
      have e : nativeFrameWords "java/lang/System" "arraycopy" 5 = 7 := by decide
      show 2 * 0 + _ + _ ≤ _
      rw [e]; omega)
  have e1 : copied cl0 (vp_cell ((gC G) 20) (hN h a, .inl (hAI h a))) sp dp n = vp_cell ((gC G) 20) (hN h a, .inl (va_cpy (stV k) (hAI h a) sp.toNatClampNeg dp.toNatClampNeg n.toNatClampNeg)) := va_copiedX (fun z => .int z) cl0 ((gC G) 20) (stV k) (hAI h a) (fun j hj => z6 j hj) h4
  rw [e1] at X' step
  have hl : a < H.size := (Array.getElem?_eq_some_iff.mp hc1).1
  generalize hcl : vp_cell ((gC G) 20) (hN h a, .inl (va_cpy (stV k) (hAI h a) sp.toNatClampNeg dp.toNatClampNeg n.toNatClampNeg)) = cl at X' step
  have hheap : ((T.setVm vm').setCell a cl).heap = H.setIfInBounds a cl := by rw [← hT]; rfl
  have oq : ∀ q : Nat, q ≠ a → (H.setIfInBounds a cl)[q]? = H[q]? := fun q hq => by simp [Array.getElem?_setIfInBounds, Ne.symm hq]
  obtain ⟨t, a1, b1⟩ := kk _ (H.setIfInBounds a cl) _ hx0 hf (mHp_set hm (a := a) (by omega) rfl rfl (by simp) oq (fun b hb => mE_sAI b hb) (by
      rw [mE_arr (by exact hk) (by omega)]
      show (H.setIfInBounds a cl)[a]? = some (vp_cell _ (hN h a, .inl (va_up (hAI h) a _ a)))
      rw [va_up_self, ← hcl]
      simp [Array.getElem?_setIfInBounds, hl])) ⟨by simp; exact hS.1, fun q g1 g2 => by
      rw [oq q (fun e => g2 (by rw [e]; exact hb1))]
      exact hS.2.1 q g1 g2, fun q hq => by
      rcases List.mem_append.mp hq with h | h
      · exact hS.2.2 q h
      · obtain ⟨z, -, hz⟩ := List.mem_map.mp h
        rw [← hz]
        exact hb1⟩ _ hheap X'
  exact ⟨t, step t a1, b1⟩
theorem r_gets (C : Cx p s m meth c args own nL cc (gD G) (gC G)) (X : Ex G s s.heap) (hS : va_S (fun q => gB G ≤ q) s.heap H locs) {index k : Nat} (hk : k < 3) (hlink : Cond.fieldLink own index "CountOffice" (stF k) "[I" ∈ tbl) (hdg : decode cc pc = .ok (.getstatic index, 3))
    (kk : W p l e R s m args below meth c H locs cells slots Q (F0 m (pc + 3) ls (.ref (G.2.2.2.1 k) :: rest))) : W p l e R s m args below meth c H locs cells slots Q (F0 m pc ls rest) :=
  va_gets C.1 C.2.1 (X.1 k hk).1 hS C.2.2.2.1 (C.2.2.2.2.1 _ hlink) (fun _ h => h) hdg kk
theorem r_sald (C : Cx p s m meth c args own nL cc (gD G) (gC G)) (X : Ex G s s.heap) (hS : va_S (fun q => gB G ≤ q) s.heap H locs) {k : Nat} (hk : k < 3) (hdg : decode cc pc = .ok (.iaload, 1)) {i : Int32} {f : Int32 → Option ρ} (hh : (stL k i).bind f = some res)
    (kk : ∀ x : Int32, stL k i = some x → f x = some res → W p l e R s m args below meth c H locs cells slots Q (F0 m (pc + 1) ls (.int x :: rest))) : W p l e R s m args below meth c H locs cells slots Q (F0 m pc ls (.int i :: .ref (G.2.2.2.1 k) :: rest)) := by
  obtain ⟨x, hx, hf⟩ := Option.bind_eq_some_iff.mp hh
  have hx0 := hx
  unfold stL at hx
  split at hx
  · cases hx
  rename_i hn
  cases hx
  obtain ⟨cell, q1, q2, q3, q4, q5, q6, q7⟩ := ((X.1 k hk).2.1).kept hS.2.1
  have hi : i.toNatClampNeg < 4 := Nat.not_le.mp fun q => hn (Or.inr q)
  exact W.iald C.1 C.2.1 q1 q2 q3 (fun q => by rcases q with q | q; exact hn (Or.inl q); omega) (q6 _ hi) rfl rfl hdg (kk _ hx0 hf)
theorem r_slen (C : Cx p s m meth c args own nL cc (gD G) (gC G)) (X : Ex G s s.heap) (hS : va_S (fun q => gB G ≤ q) s.heap H locs) {k : Nat} (hk : k < 3) (hdg : decode cc pc = .ok (.arraylength, 1))
    (kk : W p l e R s m args below meth c H locs cells slots Q (F0 m (pc + 1) ls (.int 4 :: rest))) : W p l e R s m args below meth c H locs cells slots Q (F0 m pc ls (.ref (G.2.2.2.1 k) :: rest)) := by
  obtain ⟨cell, q1, q2, q3, q4, q5, q6, q7⟩ := ((X.1 k hk).2.1).kept hS.2.1
  exact W.alen (n := 4) C.1 C.2.1 q1 q2 (q5.trans rfl) rfl rfl hdg kk
/-- a text of the reference -/
theorem r_ldcS (C : Cx p s m meth c args "CountOfficeModel" nL cc (gD G) (gC G)) (X : Ex G s s.heap) {i index : Nat} (hi : i < 9) (hx : sxI i = index) (hdg : decode cc pc = .ok (.ldc index, 2))
    (kk : W p l e R s m args below meth c H locs cells slots Q (F0 m (pc + 2) ls (.ref (G.2.2.2.2.1 i) :: rest))) : W p l e R s m args below meth c H locs cells slots Q (F0 m pc ls rest) := by
  subst hx
  exact va_ldcS C.1 C.2.1 C.2.2.2.1 (X.2.1.1 i hi) hdg kk
end Cp

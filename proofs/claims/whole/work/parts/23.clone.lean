/-- a new row of ints with the class's own numbers -/
def nAS (k : Nat) (h : MHp) : MHp := sAI (nA h 20 4) (hS h) (stV k)
def CLw (own : String) (index cidx : Nat) : Prop := Cond.methodLink own index ⟨"[I", "clone", "()Ljava/lang/Object;"⟩ ∈ tbl ∧ Cond.sameMethod "[I" "java/lang/Object" "clone" "()Ljava/lang/Object;" ∈ tbl ∧ Cond.native ⟨"java/lang/Object", "clone", "()Ljava/lang/Object;"⟩ ∈ tbl ∧ Cond.instanceMethod ⟨"java/lang/Object", "clone", "()Ljava/lang/Object;"⟩ ∈ tbl ∧ Cond.selects "[I" ⟨"[I", "clone", "()Ljava/lang/Object;"⟩ ⟨"java/lang/Object", "clone", "()Ljava/lang/Object;"⟩ ∈ tbl ∧ Cond.castable "[I" "java/lang/Cloneable" ∈ tbl ∧ Cond.classLink own cidx "[I" ∈ tbl
section Cl
variable {p : Program} {l : Launch} {e : Env} {R : Room} {s : State} {m : MethodId} {args : Array Value} {below : List Frame} {meth : Method} {c : Code} {H : Heap} {locs : List Loc} {cells slots : Nat} {Q : State → Prop}
variable {cc : ByteArray} {pc nL : Nat} {ls : Array Slot} {rest : List Value} {own : String} {G : Env0} {h : MHp} {ρ : Type} {res : ρ}
theorem r_cloneS (C : Cx p s m meth c args own nL cc (gD G) (gC G)) (X0 : Ex G s s.heap) (hm : mHp (gD G) (gC G) (gB G) h H) (hs : va_S (fun q => gB G ≤ q) s.heap H locs) {index cidx k : Nat} (hk3 : k < 3) (W0 : CLw own index cidx) (hsz : ls.size = nL) (hdg : decode cc pc = .ok (.invokevirtual index, 3)) (hfr : 1 ≤ R.frames) (hlo : (rest.map fun v => v.category).sum + 14 ≤ R.locals) (hcells : cells + 1 ≤ R.cells) (hslots : slots + 4 ≤ R.slots) {f : MHp → Option ρ} (hh : (some (nAS k h)).bind f = some res)
    (kk : ∀ (h1 : MHp) (H1 : Heap), f h1 = some res → mHp (gD G) (gC G) (gB G) h1 H1 → va_S (fun q => gB G ≤ q) s.heap H1 locs → h1 = nAS k h → W p l e R s m args below meth c H1 locs (cells + 1) (slots + 4) Q (F0 m (pc + 3) ls (va_rf (some (hS h)) :: rest))) : W p l e R s m args below meth c H locs cells slots Q (F0 m pc ls (.ref (G.2.2.2.1 k) :: rest)) := by
  have hts := C.2.2.2.2.1
  obtain ⟨w1, w2, w3, w4, w5, w6, w7⟩ := W0
  obtain ⟨cell, q1, q2, q3, q4, q5, q6, q7⟩ := ((X0.1 k hk3).2.1).kept hs.2.1
  obtain ⟨cell', g1, g2, g3⟩ := (X0.1 k hk3).2.2
  have g1' : H[G.2.2.2.1 k]? = some cell' := by rw [hs.2.1 _ (Array.getElem?_eq_some_iff.mp g1).1 q7]; exact g1
  cases Option.some.inj (q1.symm.trans g1')
  obtain ⟨c0, t0', f1, f2, f3⟩ := Cond.castable_spec (hts _ w6)
  cases g3.symm.trans f1
  have hKA := C.2.2.2.2.2.1.2 0 _ rfl
  have hcs : cell.cls = (gC G) 20 := Option.some.inj (g3.symm.trans hKA.2)
  have hslots2 : cell.slots = (arrV ((gC G) 20) 4 (fun j => .int (stV k j))).slots := by
    apply Array.ext_getElem?
    intro i
    by_cases hi : i < 4
    · rw [q6 i hi, arrV_read _ _ hi]
    · rw [Array.getElem?_eq_none (by omega), Array.getElem?_eq_none (by rw [arrV_size]; omega)]
  have hcellE : ({ cls := cell.cls, slots := cell.slots } : Cell) = arrV ((gC G) 20) 4 (fun j => .int (stV k j)) := by
    rw [hcs, hslots2]; rfl
  intro T hT X
  obtain ⟨kA', hkA, comp, hkind⟩ := (State.isArrayOf_alike X.warmed.alike q2).2
  obtain ⟨kS', hkS, compS, hkindS⟩ := q2.2
  obtain ⟨vm', X', st⟩ := X.cloneArray C.1 C.2.2.2.1 (hts _ w1) (hts _ w2) (hts _ w3) (hts _ w4) (hts _ w5) (a := G.2.2.2.1 k) (cell := cell) (by rw [hT]; exact q1) q2.1 q3 g3 f2 f3
    (fun i v hv => by
      have hi : i < 4 := by rw [← g2]; exact (Array.getElem?_eq_some_iff.mp hv).1
      rw [q6 i hi] at hv
      cases hv
      have hk' : T.vm.classes[cell.cls]? = some kA' := hkA
      simp [State.fitsSlot, State.slotType?, hk', hkind]
      rfl)
    (g := F0 m pc ls (.ref (G.2.2.2.1 k) :: rest)) rfl (hsz.trans C.2.2.1.symm) rfl (by rw [C.2.1]; exact hdg) hfr (by show 2 * 0 + _ + 14 ≤ _; omega) hcells (by rw [g2]; exact hslots) (hloader := Vm.clonesLoader_of_array hkS hkindS)
  rw [hcellE, g2] at X'
  rw [hcellE] at st
  generalize hH1 : H.push (arrV ((gC G) 20) 4 (fun j => .int (stV k j))) = H1
  have z1 : H1.size = H.size + 1 := by rw [← hH1, Array.size_push]
  have e1 : H1[H.size]? = some (arrV ((gC G) 20) 4 (fun j => .int (stV k j))) := by rw [← hH1, Array.getElem?_push_size]
  have o1 : ∀ q : Nat, q < H.size → H1[q]? = H[q]? := fun q hq => by rw [← hH1, Array.getElem?_push, if_neg (Nat.ne_of_lt hq)]
  have hmn : mHp (gD G) (gC G) (gB G) (nAS k h) H1 := by
    refine mHp_new hm z1 o1 rfl (fun b hb => va_up_ne _ _ hb) (fun b hb => by rw [nAS, mE_sAI b hb]; exact nA_off b hb) ?_
    have hkk : hK (nAS k h) (hS h) = 20 := va_up_self _ _ _
    rw [mE_arr hkk (by omega)]
    show H1[hS h]? = some (arrV ((gC G) 20) (hN (nAS k h) (hS h)) (fun j => .int (hAI (nAS k h) (hS h) j)))
    have hn : hN (nAS k h) (hS h) = 4 := va_up_self _ _ _
    have ha : hAI (nAS k h) (hS h) = stV k := va_up_self _ _ _
    rw [hn, ha, ← hm.1]
    exact e1
  obtain ⟨t, b1, b2⟩ := kk (nAS k h) H1 hh hmn ⟨Nat.le_trans hs.1 (by omega), fun y h1 h2 => (o1 y (Nat.lt_of_lt_of_le h1 hs.1)).trans (hs.2.1 y h1 h2), hs.2.2⟩ rfl ((T.setVm vm').pushCell (arrV ((gC G) 20) 4 (fun j => .int (stV k j)))) (by rw [← hH1, ← hT]; rfl) X'
  refine ⟨t, st t ?_, b2⟩
  have ez : T.heap.size = hS h := by rw [hT]; exact hm.1
  rw [ez]
  exact b1
/-- a row of ints is one -/
theorem r_castI (C : Cx p s m meth c args own nL cc (gD G) (gC G)) (hm : mHp (gD G) (gC G) (gB G) h H) {index : Nat} (hl : Cond.classLink own index "[I" ∈ tbl) (hdg : decode cc pc = .ok (.checkcast index, 3)) {a : Nat} (hk : hK h a = 20)
    (kk : W p l e R s m args below meth c H locs cells slots Q (F0 m (pc + 3) ls (va_rf (some a) :: rest))) : W p l e R s m args below meth c H locs cells slots Q (F0 m pc ls (va_rf (some a) :: rest)) :=
  va_castA C.1 C.2.1 C.2.2.2.1 (C.2.2.2.2.1 _ hl) (mA1 hm hk (by omega)).1 0 rfl ((C.2.2.2.2.2.1.2 0 _ rfl).2) hdg kk
end Cl

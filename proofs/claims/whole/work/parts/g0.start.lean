/-! the start: what the tables' words and the words of the start give -/
abbrev stWd : List Cond := flatC (Jvm.Cond.and given_1 narrow_1)
theorem st_len {args : Array Value} {s : State} {t : Term} {v : Value} (h : (Term.length t).eval args s none [] s = some v) :
    ∃ a cell, t.eval args s none [] s = some (.ref a) ∧ s.arrayAt? a = some cell ∧ v = .int cell.slots.size.toInt32 ∧ cell.slots.size < 2147483648 := by
  simp only [Term.eval, Option.bind_eq_bind] at h
  cases ht : t.eval args s none [] s with
  | none => simp [ht] at h
  | some x =>
    cases x <;> simp [ht] at h
    case ref a =>
      obtain ⟨cell, hcell, h⟩ := Option.bind_eq_some_iff.mp h
      by_cases hn : cell.slots.size < 2147483648
      · rw [if_pos hn] at h; cases h; exact ⟨a, cell, rfl, hcell, rfl, hn⟩
      · rw [if_neg hn] at h; cases h
theorem st_kn {args : Array Value} {s : State} (hts : ∀ w ∈ lw_tbl, w.before args s = true) (c : Nat) : ∃ x : ClassId × (Nat → Nat), ∀ q : vw_C, vwCl[c]? = some q → u_Kn s q.1 q.2.1 q.2.2 x.1 x.2 := by
  match c with
  | 0 => obtain ⟨cC, iS, h⟩ := u_known (C := RX0) (T := TX0) (N := 7) (n := 7) hts inX0 (hts _ (List.mem_append_right _ (List.mem_of_getElem? (i := 302) (by decide +kernel)))); exact ⟨(cC, iS), fun q hq => by cases hq; exact h⟩
  | 1 => obtain ⟨cC, iS, h⟩ := u_known (C := RX1) (T := TX1) (N := 7) (n := 7) hts inX1 (hts _ (List.mem_append_right _ (List.mem_of_getElem? (i := 40) (by decide +kernel)))); exact ⟨(cC, iS), fun q hq => by cases hq; exact h⟩
  | 2 => obtain ⟨cC, iS, h⟩ := u_known (C := RX2) (T := TX2) (N := 2) (n := 2) hts inX2 (hts _ (List.mem_append_right _ (List.mem_of_getElem? (i := 285) (by decide +kernel)))); exact ⟨(cC, iS), fun q hq => by cases hq; exact h⟩
  | 3 => obtain ⟨cC, iS, h⟩ := u_known (C := RX3) (T := TX3) (N := 8) (n := 8) hts inX3 (hts _ (List.mem_append_right _ (List.mem_of_getElem? (i := 358) (by decide +kernel)))); exact ⟨(cC, iS), fun q hq => by cases hq; exact h⟩
  | 4 => obtain ⟨cC, iS, h⟩ := u_known (C := RX4) (T := TX4) (N := 3) (n := 3) hts inX4 (hts _ (List.mem_append_right _ (List.mem_of_getElem? (i := 389) (by decide +kernel)))); exact ⟨(cC, iS), fun q hq => by cases hq; exact h⟩
  | 5 => obtain ⟨cC, iS, h⟩ := u_known (C := RX5) (T := TX5) (N := 8) (n := 8) hts inX5 (hts _ (List.mem_append_right _ (List.mem_of_getElem? (i := 253) (by decide +kernel)))); exact ⟨(cC, iS), fun q hq => by cases hq; exact h⟩
  | 6 => obtain ⟨cC, iS, h⟩ := u_known (C := RX6) (T := TX6) (N := 6) (n := 6) hts inX6 (hts _ (List.mem_append_right _ (List.mem_of_getElem? (i := 333) (by decide +kernel)))); exact ⟨(cC, iS), fun q hq => by cases hq; exact h⟩
  | 7 => obtain ⟨cC, iS, h⟩ := u_known (C := RX7) (T := TX7) (N := 8) (n := 8) hts inX7 (hts _ (List.mem_append_right _ (List.mem_of_getElem? (i := 205) (by decide +kernel)))); exact ⟨(cC, iS), fun q hq => by cases hq; exact h⟩
  | 8 => obtain ⟨cC, iS, h⟩ := u_known (C := RX8) (T := TX8) (N := 9) (n := 9) hts inX8 (hts _ (List.mem_append_right _ (List.mem_of_getElem? (i := 106) (by decide +kernel)))); exact ⟨(cC, iS), fun q hq => by cases hq; exact h⟩
  | 9 => obtain ⟨cC, iS, h⟩ := u_known (C := RX9) (T := TX9) (N := 12) (n := 12) hts inX9 (hts _ (List.mem_append_right _ (List.mem_of_getElem? (i := 142) (by decide +kernel)))); exact ⟨(cC, iS), fun q hq => by cases hq; exact h⟩
  | 10 => obtain ⟨cC, iS, h⟩ := u_known (C := RX10) (T := TX10) (N := 5) (n := 5) hts inX10 (hts _ (List.mem_append_right _ (List.mem_of_getElem? (i := 47) (by decide +kernel)))); exact ⟨(cC, iS), fun q hq => by cases hq; exact h⟩
  | 11 => obtain ⟨cC, iS, h⟩ := u_known (C := RX11) (T := TX11) (N := 16) (n := 16) hts inX11 (hts _ (List.mem_append_right _ (List.mem_of_getElem? (i := 32) (by decide +kernel)))); exact ⟨(cC, iS), fun q hq => by cases hq; exact h⟩
  | 12 => obtain ⟨cC, iS, h⟩ := u_known (C := RX12) (T := TX12) (N := 6) (n := 6) hts inX12 (hts _ (List.mem_append_right _ (List.mem_of_getElem? (i := 1494) (by decide +kernel)))); exact ⟨(cC, iS), fun q hq => by cases hq; exact h⟩
  | 13 => obtain ⟨cC, iS, h⟩ := u_known (C := RX13) (T := TX13) (N := 8) (n := 8) hts inX13 (hts _ (List.mem_append_right _ (List.mem_of_getElem? (i := 1291) (by decide +kernel)))); exact ⟨(cC, iS), fun q hq => by cases hq; exact h⟩
  | 14 => obtain ⟨cC, iS, h⟩ := u_known (C := RX14) (T := TX14) (N := 7) (n := 7) hts inX14 (hts _ (List.mem_append_right _ (List.mem_of_getElem? (i := 1692) (by decide +kernel)))); exact ⟨(cC, iS), fun q hq => by cases hq; exact h⟩
  | 15 => obtain ⟨cC, iS, h⟩ := u_known (C := RX15) (T := TX15) (N := 5) (n := 5) hts inX15 (hts _ (List.mem_append_right _ (List.mem_of_getElem? (i := 1641) (by decide +kernel)))); exact ⟨(cC, iS), fun q hq => by cases hq; exact h⟩
  | 16 => obtain ⟨cC, iS, h⟩ := u_known (C := RX16) (T := TX16) (N := 51) (n := 51) hts inX16 (hts _ (List.mem_append_right _ (List.mem_of_getElem? (i := 1283) (by decide +kernel)))); exact ⟨(cC, iS), fun q hq => by cases hq; exact h⟩
  | c + 17 =>
    refine ⟨(0, fun _ => 0), fun q hq => ?_⟩
    have h9 : c + 17 < 17 := (List.getElem?_eq_some_iff.mp hq).1
    omega
def tyK : Nat → FieldType
  | 20 => .int
  | 21 => .long
  | 22 => .byte
  | 23 => .boolean
  | 24 => .object "CountOffice$Plan"
  | 25 => .object "CountOffice$Test"
  | 26 => .object "CountOfficeModel$Table"
  | _ => .object "CountOfficeModel$Test"
theorem st_arP {args : Array Value} {s : State} {ty : FieldType} (h : (Cond.arrayClass ty).before args s = true) (h1 : ∀ C, ty ≠ .object C) (h2 : ∀ cA : ClassId, s.vm.findClass ("[" ++ ty.toString) = some cA → va_RA s cA ty) : ∃ cA : ClassId, ArrOfT s cA ty ∧ va_RA s cA ty := by
  obtain ⟨c, kA, comp, e1, e2, e3⟩ := Cond.arrayClass_spec h
  exact ⟨c, fun n z => ⟨fun k h => (by cases h), kA, e2, comp, e3⟩, h2 c e1⟩
theorem st_arO {args : Array Value} {s : State} {C : String} (h : (Cond.arrayOver (.object C)).before args s = true) : ∃ cA : ClassId, ArrOfT s cA (.object C) ∧ va_RA s cA (.object C) := by
  obtain ⟨comp, c, kA, e1, -, e3, e4, e5⟩ := Cond.arrayOver_spec h
  exact ⟨c, fun n z => ⟨fun k h => (by cases h), kA, e3, comp, e4⟩, kA, comp, e3, e4, e1, e5⟩
theorem st_ar {args : Array Value} {s : State} (hts : ∀ w ∈ lw_tbl, w.before args s = true) (k : Nat) (hk : 20 ≤ k ∧ k < 28) : ∃ cA : ClassId, ArrOfT s cA (tyK k) ∧ va_RA s cA (tyK k) := by
  rcases (show k = 20 ∨ k = 21 ∨ k = 22 ∨ k = 23 ∨ k = 24 ∨ k = 25 ∨ k = 26 ∨ k = 27 by omega) with rfl | rfl | rfl | rfl | rfl | rfl | rfl | rfl
  · exact st_arP (hts _ (List.mem_append_right _ (List.mem_of_getElem? (i := 71) (by decide +kernel)))) (fun C h => by cases h) (fun cA h => h)
  · exact st_arP (hts _ (List.mem_append_right _ (List.mem_of_getElem? (i := 70) (by decide +kernel)))) (fun C h => by cases h) (fun cA h => h)
  · exact st_arP (hts _ (List.mem_append_right _ (List.mem_of_getElem? (i := 69) (by decide +kernel)))) (fun C h => by cases h) (fun cA h => h)
  · exact st_arP (hts _ (List.mem_append_right _ (List.mem_of_getElem? (i := 1667) (by decide +kernel)))) (fun C h => by cases h) (fun cA h => h)
  · exact st_arO (hts _ (List.mem_append_right _ (List.mem_of_getElem? (i := 204) (by decide +kernel))))
  · exact st_arO (hts _ (List.mem_append_right _ (List.mem_of_getElem? (i := 46) (by decide +kernel))))
  · exact st_arO (hts _ (List.mem_append_right _ (List.mem_of_getElem? (i := 1289) (by decide +kernel))))
  · exact st_arO (hts _ (List.mem_append_right _ (List.mem_of_getElem? (i := 1500) (by decide +kernel))))
theorem st_cs {args : Array Value} {s : State} (hts : ∀ w ∈ lw_tbl, w.before args s = true) : ∃ cs : Nat → ClassId, ∀ k : Nat, 20 ≤ k ∧ k < 28 → ArrOfT s (cs k) (tyK k) ∧ va_RA s (cs k) (tyK k) := by
  refine ⟨fun k => if h : 20 ≤ k ∧ k < 28 then Classical.choose (st_ar hts k h) else 0, fun k h => ?_⟩
  simp only [dif_pos h]
  exact Classical.choose_spec (st_ar hts k h)
theorem st_K {args : Array Value} {s : State} (hts : ∀ w ∈ lw_tbl, w.before args s = true) : ∃ (D : va_G) (cs : Nat → ClassId), va_K D vwCl (tysL cs) s := by
  obtain ⟨cs, hcs⟩ := st_cs hts
  refine ⟨(fun c => (Classical.choose (st_kn hts c)).1, fun c => (Classical.choose (st_kn hts c)).2), cs, fun c q hq => Classical.choose_spec (st_kn hts c) q hq, fun k q hq => ?_⟩
  have h9 : k < 8 := (List.getElem?_eq_some_iff.mp hq).1
  rcases (show k = 0 ∨ k = 1 ∨ k = 2 ∨ k = 3 ∨ k = 4 ∨ k = 5 ∨ k = 6 ∨ k = 7 by omega) with rfl | rfl | rfl | rfl | rfl | rfl | rfl | rfl
  · cases hq; exact hcs 20 ⟨by decide, by decide⟩
  · cases hq; exact hcs 21 ⟨by decide, by decide⟩
  · cases hq; exact hcs 22 ⟨by decide, by decide⟩
  · cases hq; exact hcs 23 ⟨by decide, by decide⟩
  · cases hq; exact hcs 24 ⟨by decide, by decide⟩
  · cases hq; exact hcs 25 ⟨by decide, by decide⟩
  · cases hq; exact hcs 26 ⟨by decide, by decide⟩
  · cases hq; exact hcs 27 ⟨by decide, by decide⟩
theorem st_set {args : Array Value} {s : State} {n : String} {f : Nat → Int32} {A : Nat → Prop} (h1 : (Cond.laysStatic "CountOffice" n "[I").before args s = true) (h2 : (Cond.initialized "CountOffice").before args s = true) (h3 : (Cond.arrayOf (Term.static "CountOffice" n "[I") .int).before args s = true) (h4 : (Cond.eq (.length (.static "CountOffice" n "[I")) (.int 4)).before args s = true)
    (h5 : ∀ j : Nat, j < 4 → (Cond.eq (.elem (.static "CountOffice" n "[I") (.int (Int32.ofNat j))) (.int (f j))).before args s = true) (h6 : (Cond.exactly (.static "CountOffice" n "[I") "[I").before args s = true) (hA : ∀ a : Nat, a < s.heap.size → ¬ A a) :
    ∃ t : Nat, va_Z "CountOffice" n "[I" (.ref t) A s s.heap ∧ va_T .int t 4 (fun j => .int (f j)) A s s.heap ∧ ∃ cell : Cell, s.heap[t]? = some cell ∧ cell.slots.size = 4 ∧ s.vm.findClass "[I" = some cell.cls := by
  obtain ⟨t, ht, hT⟩ := va_Tof (tm := .static "CountOffice" n "[I") (N := 4) (f := fun j => .int (f j)) (A := A) (by decide) h3 (va_eqt h4) (fun j hj => va_eqt (h5 j hj)) hA
  refine ⟨t, va_Zof h1 h2 ht hA, hT, ?_⟩
  obtain ⟨a, cell, e1, e2, e3, e4⟩ := st_len (va_eqt h4)
  cases ht.symm.trans e1
  obtain ⟨g1, -⟩ := State.arrayAt?_spec e2
  obtain ⟨a2, c2, cell2, k2, x1, x2, x3, x4, x5, x6, -⟩ := Cond.exactly_spec h6
  cases ht.symm.trans x1
  cases g1.symm.trans x3
  refine ⟨cell, g1, ?_, by rw [x6]; exact x2⟩
  have e5 : (4 : Int32) = Int32.ofNat cell.slots.size := Value.int.inj e3
  have e6 := congrArg Int32.toNatClampNeg e5
  rw [Int32.toNatClampNeg_ofNat_of_lt e4] at e6
  exact e6.symm
theorem st_St {args : Array Value} {s : State} (hts : ∀ w ∈ lw_tbl, w.before args s = true) (hq : ∀ w ∈ stWd, w.before args s = true) {A : Nat → Prop} (hA : ∀ a : Nat, a < s.heap.size → ¬ A a) (k : Nat) (hk : k < 3) : ∃ t : Nat, va_Z "CountOffice" (stF k) "[I" (.ref t) A s s.heap ∧ va_T .int t 4 (fun j => .int (stV k j)) A s s.heap ∧ ∃ cell : Cell, s.heap[t]? = some cell ∧ cell.slots.size = 4 ∧ s.vm.findClass "[I" = some cell.cls := by
  rcases (show k = 0 ∨ k = 1 ∨ k = 2 by omega) with rfl | rfl | rfl
  · refine st_set (f := stV 0) (hts _ (List.mem_append_right _ (List.mem_of_getElem? (i := 244) (by decide +kernel)))) (hts _ (List.mem_append_right _ (List.mem_of_getElem? (i := 1) (by decide +kernel)))) (hq _ (by decide +kernel)) (hq _ (by decide +kernel)) (fun j hj => ?_) (hq _ (by decide +kernel)) hA
    rcases (show j = 0 ∨ j = 1 ∨ j = 2 ∨ j = 3 by omega) with rfl | rfl | rfl | rfl
    · exact hq _ (by decide +kernel)
    · exact hq _ (by decide +kernel)
    · exact hq _ (by decide +kernel)
    · exact hq _ (by decide +kernel)
  · refine st_set (f := stV 1) (hts _ (List.mem_append_right _ (List.mem_of_getElem? (i := 1023) (by decide +kernel)))) (hts _ (List.mem_append_right _ (List.mem_of_getElem? (i := 1) (by decide +kernel)))) (hq _ (by decide +kernel)) (hq _ (by decide +kernel)) (fun j hj => ?_) (hq _ (by decide +kernel)) hA
    rcases (show j = 0 ∨ j = 1 ∨ j = 2 ∨ j = 3 by omega) with rfl | rfl | rfl | rfl
    · exact hq _ (by decide +kernel)
    · exact hq _ (by decide +kernel)
    · exact hq _ (by decide +kernel)
    · exact hq _ (by decide +kernel)
  · refine st_set (f := stV 2) (hts _ (List.mem_append_right _ (List.mem_of_getElem? (i := 1025) (by decide +kernel)))) (hts _ (List.mem_append_right _ (List.mem_of_getElem? (i := 1) (by decide +kernel)))) (hq _ (by decide +kernel)) (hq _ (by decide +kernel)) (fun j hj => ?_) (hq _ (by decide +kernel)) hA
    rcases (show j = 0 ∨ j = 1 ∨ j = 2 ∨ j = 3 by omega) with rfl | rfl | rfl | rfl
    · exact hq _ (by decide +kernel)
    · exact hq _ (by decide +kernel)
    · exact hq _ (by decide +kernel)
    · exact hq _ (by decide +kernel)

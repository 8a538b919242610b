/-- a class by its link: its kind, how many fields -/
def Nlk (own : String) (index kd n : Nat) : Prop :=
  ∃ (CN : String) (T : u_T) (tyf : Nat → FieldType), vwCl[kd - 1]? = some (CN, T, n) ∧ Cond.classLink own index CN ∈ tbl ∧ Cond.instantiable CN n ∈ tbl ∧ Cond.initialized CN ∈ tbl ∧ (0 < kd ∧ kd < 20) ∧ (∀ w ∈ u_ws CN T n, w ∈ tbl) ∧ (∀ j, j < n → parseFieldDescriptor (T j).2.2.1 = some (tyf j)) ∧ (slT kd).length = n ∧
    ∀ j, j < n → ((slT kd).getD j 0 = 0 → defaultValue (tyf j) = .int 0) ∧ ((slT kd).getD j 0 = 1 → defaultValue (tyf j) = .long 0) ∧ (2 ≤ (slT kd).getD j 0 → defaultValue (tyf j) = .null)
section Nw
variable {p : Program} {l : Launch} {e : Env} {R : Room} {s : State} {m : MethodId} {args : Array Value} {below : List Frame} {meth : Method} {c : Code} {H H0 : Heap} {locs : List Loc} {cells slots : Nat} {Q : State → Prop}
variable {cc : ByteArray} {pc nL b0 : Nat} {ls : Array Slot} {rest : List Value} {D : va_G} {cs : Nat → ClassId} {own : String} {h : MHp}
theorem mE_off {h h' : MHp} {a b : Nat} (hb : b ≠ a) (h1 : hK h' b = hK h b) (h2 : hN h' b = hN h b) (h3 : hI h' b = hI h b) (h4 : hL h' b = hL h b) (h5 : hR h' b = hR h b) (h6 : hAI h' b = hAI h b) (h7 : hAL h' b = hAL h b) (h8 : hAR h' b = hAR h b) : mE cs h' b = mE cs h b := by
  have e1 : ∀ (ts : List Nat) (j : Nat), mFs ts j h' b = mFs ts j h b := by
    intro ts
    induction ts with
    | nil => intro j; rfl
    | cons t ts ih =>
      intro j
      show mV t h' b j :: mFs ts (j + 1) h' b = mV t h b j :: mFs ts (j + 1) h b
      rw [ih (j + 1)]
      congr 1
      unfold mV
      split
      · rw [h3]
      · rw [h4]
      · rw [h5]
  unfold mE
  rw [h1]
  split
  · rw [e1]
  · have : mAr h' b (hK h b) = mAr h b (hK h b) := by
      unfold mAr
      split
      · rw [h2, h7]
      · rw [h2, h6]
      · rw [h2, h6]
      · rw [h2, h6]
      · rw [h2, h8]
    rw [this]
theorem mHp_new {h' : MHp} {H1 : Heap} (hm : mHp D cs b0 h H) (z : H1.size = H.size + 1) (o : ∀ q : Nat, q < H.size → H1[q]? = H[q]?) (hs : hS h' = hS h + 1) (hk : ∀ b, b ≠ hS h → hK h' b = hK h b) (ho : ∀ b, b ≠ hS h → mE cs h' b = mE cs h b) (he : va_at D vwCl (hS h, mE cs h' (hS h)) H1) : mHp D cs b0 h' H1 := by
  refine ⟨by rw [z, hs, hm.1], by rw [z]; exact Nat.le_succ_of_le hm.2.1, fun b hb => ?_⟩
  by_cases q : b = hS h
  · subst q
    exact ⟨by rw [← hm.1]; exact hm.2.1, he⟩
  · rw [hk b q] at hb
    rw [ho b q]
    have h3 := hm.2.2 b hb
    exact ⟨h3.1, h3.2.kept (o b h3.2.lt)⟩
theorem r_new (C : Cx p s m meth c args own nL cc D cs) (hm : mHp D cs b0 h H) (hS0 : va_S (fun q => b0 ≤ q) H0 H locs) {index kd n : Nat} (F : Nlk own index kd n) (hcells : cells + 1 ≤ R.cells) (hslots : slots + n ≤ R.slots) (hdg : decode cc pc = .ok (.new index, 3))
    (kk : ∀ H1 : Heap, mHp D cs b0 (nO h kd n) H1 → va_S (fun q => b0 ≤ q) H0 H1 locs → W p l e R s m args below meth c H1 locs (cells + 1) (slots + n) Q (F0 m (pc + 3) ls (va_rf (some (hS h)) :: rest))) : W p l e R s m args below meth c H locs cells slots Q (F0 m pc ls rest) := by
  obtain ⟨hx, hb, -, hown, hts, hKn, -⟩ := C
  obtain ⟨CN, T, tyf, hcl, q1, q2, q3, hkd, hin, hty, hlen, hdv⟩ := F
  have hKc := hKn.1 (kd - 1) _ hcl
  refine W.newcK hx hb hown (hts _ q1) (hts _ q2) (hts _ q3) rfl hdg hcells hslots hKc.2.1 hm.1 fun H1 kC hkC e1 z1 o1 => ?_
  have hk : hK (nO h kd n) (hS h) = kd := va_up_self _ _ _
  refine kk H1 (mHp_new hm (by rw [z1, hm.1]) (fun q hq => o1 q (by rw [← hm.1]; exact hq)) rfl (fun b hb => va_up_ne _ _ hb) (fun b hb => mE_off hb (va_up_ne _ _ hb) rfl (va_up_ne _ _ hb) (va_up_ne _ _ hb) (va_up_ne _ _ hb) rfl rfl rfl) ?_) ⟨Nat.le_trans hS0.1 (by rw [z1, ← hm.1]; exact Nat.le_succ _), fun x h1 h2 => (o1 x (by rw [← hm.1]; exact Nat.lt_of_lt_of_le h1 hS0.1)).trans (hS0.2.1 x h1 h2), hS0.2.2⟩
  rw [mE_obj hk hkd.2]
  refine ⟨_, hcl, (u_born tyf hts hin hKc hkC e1 hty).to (fun j hj => ?_)⟩
  have hj2 : j < (slT kd).length := by rw [hlen]; exact hj
  have hg : (slT kd)[j]? = some ((slT kd).getD j 0) := by rw [List.getD_eq_getElem?_getD, List.getElem?_eq_getElem hj2]; rfl
  have hv : vp_V (mFs (slT kd) 0 (nO h kd n) (hS h)) j = mV ((slT kd).getD j 0) (nO h kd n) (hS h) j := by
    unfold vp_V
    rw [List.getD_eq_getElem?_getD, mFs_get, hg]
    simp
  show defaultValue (tyf j) = _
  rw [hv]
  obtain ⟨d0, d1, d2⟩ := hdv j hj
  generalize hgt : (slT kd).getD j 0 = t at d0 d1 d2 ⊢
  have eI : hI (nO h kd n) (hS h) j = 0 := congrFun (va_up_self (hI h) (hS h) (fun _ => (0 : Int32))) j
  have eL : hL (nO h kd n) (hS h) j = 0 := congrFun (va_up_self (hL h) (hS h) (fun _ => (0 : Int64))) j
  have eR : hR (nO h kd n) (hS h) j = none := congrFun (va_up_self (hR h) (hS h) (fun _ => (none : Option Nat))) j
  match t with
  | 0 => rw [d0 rfl]; show _ = Value.int (hI _ _ _); rw [eI]
  | 1 => rw [d1 rfl]; show _ = Value.long (hL _ _ _); rw [eL]
  | t + 2 => rw [d2 (by omega)]; show _ = va_rf (hR _ _ _); rw [eR]; rfl
theorem nA_off {kd n : Nat} (b : Nat) (hb : b ≠ hS h) : mE cs (nA h kd n) b = mE cs h b := mE_off hb (va_up_ne _ _ hb) (va_up_ne _ _ hb) rfl rfl rfl (va_up_ne _ _ hb) (va_up_ne _ _ hb) (va_up_ne _ _ hb)
theorem nA_at {kd n : Nat} (h20 : 20 ≤ kd) : mE cs (nA h kd n) (hS h) = .inl (cs kd, (n, (mAr (nA h kd n) (hS h) kd).2)) := by
  rw [mE_arr (h := nA h kd n) (a := hS h) (kd := kd) (va_up_self _ _ _) h20]
  have : (mAr (nA h kd n) (hS h) kd).1 = n := by
    unfold mAr
    split <;> exact va_up_self _ _ _
  exact congrArg (fun q => Sum.inl (cs kd, q)) (Prod.ext this rfl)
/-- a new row of numbers -/
theorem r_newa {ρ : Type} {res : ρ} (C : Cx p s m meth c args own nL cc D cs) (hm : mHp D cs b0 h H) (hS0 : va_S (fun q => b0 ≤ q) H0 H locs) {kd w : Nat} {atype : ArrayType} (hkd : (kd = 20 ∧ atype = .int ∧ w = 4) ∨ (kd = 21 ∧ atype = .long ∧ w = 8) ∨ (kd = 22 ∧ atype = .byte ∧ w = 1) ∨ (kd = 23 ∧ atype = .boolean ∧ w = 1)) (hw : Cond.arrayClass (newarray.typeOf atype) ∈ tbl) (hdg : decode cc pc = .ok (.newarray atype, 2)) {n : Int32} {f : MHp → Option ρ} (hh : (nAo kd w h n).bind f = some res) (hcells : cells + 1 ≤ R.cells) (hslots : slots + n.toNatClampNeg ≤ R.slots)
    (kk : ∀ (H1 : Heap), f (nA h kd n.toNatClampNeg) = some res → mHp D cs b0 (nA h kd n.toNatClampNeg) H1 → va_S (fun q => b0 ≤ q) H0 H1 locs → W p l e R s m args below meth c H1 locs (cells + 1) (slots + n.toNatClampNeg) Q (F0 m (pc + 2) ls (va_rf (some (hS h)) :: rest))) : W p l e R s m args below meth c H locs cells slots Q (F0 m pc ls (.int n :: rest)) := by
  obtain ⟨hx, hb, -, hown, hts, hKn, -⟩ := C
  obtain ⟨h9, hx9, hf⟩ := Option.bind_eq_some_iff.mp hh
  unfold nAo at hx9
  split at hx9
  · cases hx9
  · rename_i hn
    cases hx9
    have hn0 : ¬ n < 0 := fun q => hn (Or.inl q)
    have hn1 : n.toNatClampNeg * w ≤ 536870912 := Nat.not_lt.mp fun q => hn (Or.inr q)
    have hbytes : n.toNatClampNeg * componentBytes (newarray.typeOf atype) ≤ 536870912 := by
      rcases hkd with ⟨-, rfl, rfl⟩ | ⟨-, rfl, rfl⟩ | ⟨-, rfl, rfl⟩ | ⟨-, rfl, rfl⟩ <;> exact hn1
    refine va_newaK hx hb (hts _ hw) rfl hdg rfl hn0 rfl hbytes hcells hslots hm.1 fun H1 cA e1 z1 o1 _ hfc => ?_
    refine kk H1 hf (mHp_new hm (by rw [z1, hm.1]) (fun q hq => o1 q (by rw [← hm.1]; exact hq)) rfl (fun b hb => va_up_ne _ _ hb) (fun b hb => nA_off b hb) ?_) ⟨Nat.le_trans hS0.1 (by rw [z1, ← hm.1]; exact Nat.le_succ _), fun x h1 h2 => (o1 x (by rw [← hm.1]; exact Nat.lt_of_lt_of_le h1 hS0.1)).trans (hS0.2.1 x h1 h2), hS0.2.2⟩
    rw [nA_at (by omega)]
    show H1[hS h]? = some (vp_cell (cs kd) _)
    rw [e1]
    rcases hkd with ⟨rfl, rfl, -⟩ | ⟨rfl, rfl, -⟩ | ⟨rfl, rfl, -⟩ | ⟨rfl, rfl, -⟩
    · have hc : cA = cs 20 := Option.some.inj (hfc.symm.trans (hKn.2 0 _ rfl).2)
      subst hc
      show some (arrV (cs 20) n.toNatClampNeg _) = some (arrV (cs 20) n.toNatClampNeg (fun j => Value.int (hAI (nA h 20 n.toNatClampNeg) (hS h) j)))
      refine congrArg (fun z => some (arrV (cs 20) n.toNatClampNeg z)) (funext fun j => ?_)
      show Value.int 0 = Value.int (va_up (hAI h) (hS h) (fun _ => (0 : Int32)) (hS h) j)
      rw [va_up_self]
    · have hc : cA = cs 21 := Option.some.inj (hfc.symm.trans (hKn.2 1 _ rfl).2)
      subst hc
      show some (arrV (cs 21) n.toNatClampNeg _) = some (arrV (cs 21) n.toNatClampNeg (fun j => Value.long (hAL (nA h 21 n.toNatClampNeg) (hS h) j)))
      refine congrArg (fun z => some (arrV (cs 21) n.toNatClampNeg z)) (funext fun j => ?_)
      show Value.long 0 = Value.long (va_up (hAL h) (hS h) (fun _ => (0 : Int64)) (hS h) j)
      rw [va_up_self]
    · have hc : cA = cs 22 := Option.some.inj (hfc.symm.trans (hKn.2 2 _ rfl).2)
      subst hc
      show some (arrV (cs 22) n.toNatClampNeg _) = some (arrV (cs 22) n.toNatClampNeg (fun j => Value.int (hAI (nA h 22 n.toNatClampNeg) (hS h) j)))
      refine congrArg (fun z => some (arrV (cs 22) n.toNatClampNeg z)) (funext fun j => ?_)
      show Value.int 0 = Value.int (va_up (hAI h) (hS h) (fun _ => (0 : Int32)) (hS h) j)
      rw [va_up_self]
    · have hc : cA = cs 23 := Option.some.inj (hfc.symm.trans (hKn.2 3 _ rfl).2)
      subst hc
      show some (arrV (cs 23) n.toNatClampNeg _) = some (arrV (cs 23) n.toNatClampNeg (fun j => Value.int (hAI (nA h 23 n.toNatClampNeg) (hS h) j)))
      refine congrArg (fun z => some (arrV (cs 23) n.toNatClampNeg z)) (funext fun j => ?_)
      show Value.int 0 = Value.int (va_up (hAI h) (hS h) (fun _ => (0 : Int32)) (hS h) j)
      rw [va_up_self]
/-- a new row of objects -/
theorem r_newq {ρ : Type} {res : ρ} (C : Cx p s m meth c args own nL cc D cs) (hm : mHp D cs b0 h H) (hS0 : va_S (fun q => b0 ≤ q) H0 H locs) {kd index t0 : Nat} {CN : String} (h24 : 24 ≤ kd) (ht : (tysL cs)[t0]? = some (cs kd, .object CN)) (hover : va_AO CN s) (hcl : Cond.classLink own index CN ∈ tbl) (hdg : decode cc pc = .ok (.anewarray index, 3)) {n : Int32} {f : MHp → Option ρ} (hh : (nAo kd 4 h n).bind f = some res) (hcells : cells + 1 ≤ R.cells) (hslots : slots + n.toNatClampNeg ≤ R.slots)
    (kk : ∀ (H1 : Heap), f (nA h kd n.toNatClampNeg) = some res → mHp D cs b0 (nA h kd n.toNatClampNeg) H1 → va_S (fun q => b0 ≤ q) H0 H1 locs → W p l e R s m args below meth c H1 locs (cells + 1) (slots + n.toNatClampNeg) Q (F0 m (pc + 3) ls (va_rf (some (hS h)) :: rest))) : W p l e R s m args below meth c H locs cells slots Q (F0 m pc ls (.int n :: rest)) := by
  obtain ⟨hx, hb, -, hown, hts, hKn, -⟩ := C
  obtain ⟨h9, hx9, hf⟩ := Option.bind_eq_some_iff.mp hh
  unfold nAo at hx9
  split at hx9
  · cases hx9
  · rename_i hn
    cases hx9
    have hn0 : ¬ n < 0 := fun q => hn (Or.inl q)
    have hn1 : n.toNatClampNeg * 4 ≤ 536870912 := Nat.not_lt.mp fun q => hn (Or.inr q)
    refine W.anew hx hb hown (hts _ hcl) (va_AO.use hover) rfl hdg rfl hn0 hn1 hcells hslots fun cA kA comp f1 f2 f3 f4 => ?_
    generalize hH1 : H.push ({ cls := cA, slots := Array.replicate n.toNatClampNeg .null, vm := .none } : Cell) = H1
    have z1 : H1.size = H.size + 1 := by rw [← hH1, Array.size_push]
    have e1 : H1[H.size]? = some (arrV cA n.toNatClampNeg (fun _ => .null)) := by rw [← hH1, Array.getElem?_push_size, ← arrV_new]
    have o1 : ∀ q : Nat, q < H.size → H1[q]? = H[q]? := fun q hq => by rw [← hH1, Array.getElem?_push, if_neg (Nat.ne_of_lt hq)]
    rw [show (Value.ref H.size) = va_rf (some (hS h)) by rw [← hm.1]; rfl]
    refine kk H1 hf (mHp_new hm z1 o1 rfl (fun b hb => va_up_ne _ _ hb) (fun b hb => nA_off b hb) ?_) ⟨Nat.le_trans hS0.1 (by omega), fun x h1 h2 => (o1 x (Nat.lt_of_lt_of_le h1 hS0.1)).trans (hS0.2.1 x h1 h2), hS0.2.2⟩
    rw [nA_at (by omega)]
    show H1[hS h]? = some (vp_cell (cs kd) _)
    rw [← hm.1, e1, hm.1]
    have hc : cA = cs kd := by
      obtain ⟨kA', comp', -, -, -, k4⟩ := (hKn.2 t0 _ ht).2
      exact Option.some.inj (f1.symm.trans k4)
    subst hc
    rw [mAr_ref h24]
    show some (arrV (cs kd) n.toNatClampNeg _) = some (arrV (cs kd) n.toNatClampNeg (fun j => va_rf (hAR (nA h kd n.toNatClampNeg) (hS h) j)))
    refine congrArg (fun z => some (arrV (cs kd) n.toNatClampNeg z)) (funext fun j => ?_)
    show Value.null = va_rf (va_up (hAR h) (hS h) (fun _ => (none : Option Nat)) (hS h) j)
    rw [va_up_self]; rfl
end Nw

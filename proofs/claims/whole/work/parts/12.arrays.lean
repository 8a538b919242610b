section Ar
variable {p : Program} {l : Launch} {e : Env} {R : Room} {s : State} {m : MethodId} {args : Array Value} {below : List Frame} {meth : Method} {c : Code} {H H0 : Heap} {locs : List Loc} {cells slots : Nat} {Q : State → Prop}
variable {cc : ByteArray} {pc nL b0 : Nat} {ls : Array Slot} {rest : List Value} {D : va_G} {cs : Nat → ClassId} {own : String} {h : MHp} {ρ : Type} {res : ρ}
theorem mA1 (hm : mHp D cs b0 h H) {a kd : Nat} (hk : hK h a = kd) (h20 : 20 ≤ kd) : va_P D vwCl [(a, .inl (cs kd, mAr h a kd))] H ∧ b0 ≤ a := by
  have h1 := mP1 hm (a := a) (by omega)
  rw [mE_arr hk h20] at h1
  exact ⟨h1, (hm.2.2 a (by omega)).1⟩
theorem mE_sAI {a : Nat} {v : Nat → Int32} (b : Nat) (hb : b ≠ a) : mE cs (sAI h a v) b = mE cs h b := by
  have e1 : ∀ (ts : List Nat) (j : Nat), mFs ts j (sAI h a v) b = mFs ts j h b := by
    intro ts
    induction ts with
    | nil => intro j; rfl
    | cons t ts ih =>
      intro j
      show mV t (sAI h a v) b j :: mFs ts (j + 1) (sAI h a v) b = mV t h b j :: mFs ts (j + 1) h b
      rw [ih (j + 1)]
      rfl
  have e2 : hAI (sAI h a v) b = hAI h b := va_up_ne _ _ hb
  show (if hK h b < 20 then _ else _) = (if hK h b < 20 then _ else _)
  split
  · exact congrArg (fun q => Sum.inr (hK h b - 1, q)) (e1 _ 0)
  · refine congrArg (fun q => Sum.inl (cs (hK h b), q)) ?_
    have : ∀ k, mAr (sAI h a v) b k = mAr h b k := by
      intro k
      unfold mAr
      split <;> first | rfl | (rw [e2]; rfl)
    exact this _
theorem mE_sAL {a : Nat} {v : Nat → Int64} (b : Nat) (hb : b ≠ a) : mE cs (sAL h a v) b = mE cs h b := by
  have e1 : ∀ (ts : List Nat) (j : Nat), mFs ts j (sAL h a v) b = mFs ts j h b := by
    intro ts
    induction ts with
    | nil => intro j; rfl
    | cons t ts ih =>
      intro j
      show mV t (sAL h a v) b j :: mFs ts (j + 1) (sAL h a v) b = mV t h b j :: mFs ts (j + 1) h b
      rw [ih (j + 1)]
      rfl
  have e2 : hAL (sAL h a v) b = hAL h b := va_up_ne _ _ hb
  show (if hK h b < 20 then _ else _) = (if hK h b < 20 then _ else _)
  split
  · exact congrArg (fun q => Sum.inr (hK h b - 1, q)) (e1 _ 0)
  · refine congrArg (fun q => Sum.inl (cs (hK h b), q)) ?_
    have : ∀ k, mAr (sAL h a v) b k = mAr h b k := by
      intro k
      unfold mAr
      split <;> first | rfl | (rw [e2]; rfl)
    exact this _
theorem mE_sAR {a : Nat} {v : Nat → Option Nat} (b : Nat) (hb : b ≠ a) : mE cs (sAR h a v) b = mE cs h b := by
  have e1 : ∀ (ts : List Nat) (j : Nat), mFs ts j (sAR h a v) b = mFs ts j h b := by
    intro ts
    induction ts with
    | nil => intro j; rfl
    | cons t ts ih =>
      intro j
      show mV t (sAR h a v) b j :: mFs ts (j + 1) (sAR h a v) b = mV t h b j :: mFs ts (j + 1) h b
      rw [ih (j + 1)]
      rfl
  have e2 : hAR (sAR h a v) b = hAR h b := va_up_ne _ _ hb
  show (if hK h b < 20 then _ else _) = (if hK h b < 20 then _ else _)
  split
  · exact congrArg (fun q => Sum.inr (hK h b - 1, q)) (e1 _ 0)
  · refine congrArg (fun q => Sum.inl (cs (hK h b), q)) ?_
    have : ∀ k, mAr (sAR h a v) b k = mAr h b k := by
      intro k
      unfold mAr
      split <;> first | rfl | (rw [e2]; rfl)
    exact this _
/-! reading a row -/
theorem r_ald (C : Cx p s m meth c args own nL cc D cs) (hm : mHp D cs b0 h H) (hdg : decode cc pc = .ok (.iaload, 1)) {o : Option Nat} {i : Int32} {f : Int32 → Option ρ} (hh : (gAI 20 h o i).bind f = some res)
    (kk : ∀ x : Int32, gAI 20 h o i = some x → f x = some res → W p l e R s m args below meth c H locs cells slots Q (F0 m (pc + 1) ls (.int x :: rest))) : W p l e R s m args below meth c H locs cells slots Q (F0 m pc ls (.int i :: va_rf o :: rest)) := by
  obtain ⟨x, hx, hf⟩ := Option.bind_eq_some_iff.mp hh
  have hx0 := hx
  obtain ⟨a, ha, rfl⟩ := Option.map_eq_some_iff.mp hx
  obtain ⟨rfl, hk, hin⟩ := inA_some ha
  exact va_iald C.1 C.2.1 C.2.2.2.2.2.1 (mA1 hm hk (by omega)).1 0 0 (f := hAI h a) rfl rfl hin hdg (kk _ hx0 hf)
theorem r_bald (C : Cx p s m meth c args own nL cc D cs) (hm : mHp D cs b0 h H) (hdg : decode cc pc = .ok (.baload, 1)) {o : Option Nat} {i : Int32} {f : Int32 → Option ρ} (hh : (gAI 22 h o i).bind f = some res)
    (kk : ∀ x : Int32, gAI 22 h o i = some x → f x = some res → W p l e R s m args below meth c H locs cells slots Q (F0 m (pc + 1) ls (.int x :: rest))) : W p l e R s m args below meth c H locs cells slots Q (F0 m pc ls (.int i :: va_rf o :: rest)) := by
  obtain ⟨x, hx, hf⟩ := Option.bind_eq_some_iff.mp hh
  have hx0 := hx
  obtain ⟨a, ha, rfl⟩ := Option.map_eq_some_iff.mp hx
  obtain ⟨rfl, hk, hin⟩ := inA_some ha
  exact va_bald C.1 C.2.1 C.2.2.2.2.2.1 (mA1 hm hk (by omega)).1 0 2 (f := hAI h a) rfl rfl hin hdg (kk _ hx0 hf)
theorem r_zald (C : Cx p s m meth c args own nL cc D cs) (hm : mHp D cs b0 h H) (hdg : decode cc pc = .ok (.baload, 1)) {o : Option Nat} {i : Int32} {f : Int32 → Option ρ} (hh : (gAI 23 h o i).bind f = some res)
    (kk : ∀ x : Int32, gAI 23 h o i = some x → f x = some res → W p l e R s m args below meth c H locs cells slots Q (F0 m (pc + 1) ls (.int x :: rest))) : W p l e R s m args below meth c H locs cells slots Q (F0 m pc ls (.int i :: va_rf o :: rest)) := by
  obtain ⟨x, hx, hf⟩ := Option.bind_eq_some_iff.mp hh
  have hx0 := hx
  obtain ⟨a, ha, rfl⟩ := Option.map_eq_some_iff.mp hx
  obtain ⟨rfl, hk, hin⟩ := inA_some ha
  exact va_zald C.1 C.2.1 C.2.2.2.2.2.1 (mA1 hm hk (by omega)).1 0 3 (f := hAI h a) rfl rfl hin hdg (kk _ hx0 hf)
theorem r_lald (C : Cx p s m meth c args own nL cc D cs) (hm : mHp D cs b0 h H) (hdg : decode cc pc = .ok (.laload, 1)) {o : Option Nat} {i : Int32} {f : Int64 → Option ρ} (hh : (gAL 21 h o i).bind f = some res)
    (kk : ∀ x : Int64, gAL 21 h o i = some x → f x = some res → W p l e R s m args below meth c H locs cells slots Q (F0 m (pc + 1) ls (.long x :: rest))) : W p l e R s m args below meth c H locs cells slots Q (F0 m pc ls (.int i :: va_rf o :: rest)) := by
  obtain ⟨x, hx, hf⟩ := Option.bind_eq_some_iff.mp hh
  have hx0 := hx
  obtain ⟨a, ha, rfl⟩ := Option.map_eq_some_iff.mp hx
  obtain ⟨rfl, hk, hin⟩ := inA_some ha
  exact va_lald C.1 C.2.1 C.2.2.2.2.2.1 (mA1 hm hk (by omega)).1 0 1 (f := hAL h a) rfl rfl hin hdg (kk _ hx0 hf)
theorem mAr_ref {a kd : Nat} (hk : 24 ≤ kd) : mAr h a kd = (hN h a, .inr (.inr (.inr (.inr (hAR h a))))) := by
  unfold mAr
  split <;> first | omega | rfl
theorem r_ald_q (C : Cx p s m meth c args own nL cc D cs) (hm : mHp D cs b0 h H) (hdg : decode cc pc = .ok (.aaload, 1)) {kd : Nat} (h24 : 24 ≤ kd) {t0 : Nat} {CN : String} (ht : (tysL cs)[t0]? = some (cs kd, .object CN)) {o : Option Nat} {i : Int32} {f : Option Nat → Option ρ} (hh : (gAR kd h o i).bind f = some res)
    (kk : ∀ x : Option Nat, gAR kd h o i = some x → f x = some res → W p l e R s m args below meth c H locs cells slots Q (F0 m (pc + 1) ls (va_rf x :: rest))) : W p l e R s m args below meth c H locs cells slots Q (F0 m pc ls (.int i :: va_rf o :: rest)) := by
  obtain ⟨x, hx, hf⟩ := Option.bind_eq_some_iff.mp hh
  have hx0 := hx
  obtain ⟨a, ha, rfl⟩ := Option.map_eq_some_iff.mp hx
  obtain ⟨rfl, hk, hin⟩ := inA_some ha
  have h1 := (mA1 hm hk (by omega)).1
  rw [mAr_ref h24] at h1
  exact va_aldq C.1 C.2.1 C.2.2.2.2.2.1 h1 0 t0 (f := hAR h a) rfl ht hin hdg (kk _ hx0 hf)
theorem r_len (C : Cx p s m meth c args own nL cc D cs) (hm : mHp D cs b0 h H) (hdg : decode cc pc = .ok (.arraylength, 1)) {kd : Nat} (h20 : 20 ≤ kd ∧ kd < 28) {o : Option Nat} {f : Int32 → Option ρ} (hh : (gN kd h o).bind f = some res)
    (kk : ∀ x : Int32, gN kd h o = some x → f x = some res → W p l e R s m args below meth c H locs cells slots Q (F0 m (pc + 1) ls (.int x :: rest))) : W p l e R s m args below meth c H locs cells slots Q (F0 m pc ls (va_rf o :: rest)) := by
  obtain ⟨x, hx, hf⟩ := Option.bind_eq_some_iff.mp hh
  have hx0 := hx
  obtain ⟨a, ha, rfl⟩ := Option.map_eq_some_iff.mp hx
  obtain ⟨rfl, hk⟩ := rcv_some ha
  have h1 := (mA1 hm hk h20.1).1
  have hn : (mAr h a kd).1 = hN h a := by unfold mAr; split <;> rfl
  obtain ⟨ty, ht⟩ : ∃ ty, (tysL cs)[kd - 20]? = some (cs kd, ty) := by
    obtain ⟨j, rfl⟩ : ∃ j, kd = j + 20 := ⟨kd - 20, by omega⟩
    have hj : j < 8 := by omega
    rw [Nat.add_sub_cancel]
    rcases (show j = 0 ∨ j = 1 ∨ j = 2 ∨ j = 3 ∨ j = 4 ∨ j = 5 ∨ j = 6 ∨ j = 7 by omega) with rfl | rfl | rfl | rfl | rfl | rfl | rfl | rfl <;> exact ⟨_, rfl⟩
  exact va_alen C.1 C.2.1 C.2.2.2.2.2.1 h1 0 (kd - 20) rfl ht (by rw [hn]) hdg (kk _ hx0 hf)
/-! writing into a row -/
theorem r_ast (C : Cx p s m meth c args own nL cc D cs) (hm : mHp D cs b0 h H) (hS0 : va_S (fun q => b0 ≤ q) H0 H locs) (hdg : decode cc pc = .ok (.iastore, 1)) {o : Option Nat} {i v : Int32} {f : MHp → Option ρ} (hh : (pAI 20 h o i v).bind f = some res)
    (kk : ∀ (h' : MHp) (H1 : Heap) (locs1 : List Loc), pAI 20 h o i v = some h' → f h' = some res → mHp D cs b0 h' H1 → va_S (fun q => b0 ≤ q) H0 H1 locs1 → W p l e R s m args below meth c H1 locs1 cells slots Q (F0 m (pc + 1) ls rest)) : W p l e R s m args below meth c H locs cells slots Q (F0 m pc ls (.int v :: .int i :: va_rf o :: rest)) := by
  obtain ⟨x, hx, hf⟩ := Option.bind_eq_some_iff.mp hh
  have hx0 := hx
  obtain ⟨a, ha, rfl⟩ := Option.map_eq_some_iff.mp hx
  obtain ⟨rfl, hk, hin⟩ := inA_some ha
  obtain ⟨h1, hba⟩ := mA1 hm hk (by omega)
  have hKA := C.2.2.2.2.2.1.2 0 _ rfl
  refine W.iast C.1 C.2.1 (h1 0 _ rfl) (hKA.1 (hN h a) (fun j => .int (hAI h a j))) (fun q => by cases q) (by show ¬ (i < 0 ∨ (arrV _ _ _).slots.size ≤ _); rw [arrV_size]; exact hin) rfl rfl hdg fun H1 e1 z oq => ?_
  refine kk _ H1 _ hx0 hf (mHp_set hm (a := a) (by omega) rfl rfl z oq (fun b hb => mE_sAI b hb) ?_) (hS0.put z oq hba)
  rw [mE_arr (by exact hk) (by omega)]
  show H1[a]? = some (vp_cell _ (hN h a, .inl (va_up (hAI h) a _ a)))
  rw [va_up_self, e1]
  show some (Cell.setSlot (vp_cell _ (hN h a, .inl (hAI h a))) _ _) = _
  rw [vp_cell_i, vp_cell_i, arrV_store]
  refine congrArg (fun z => some (arrV _ _ z)) (funext fun q => ?_)
  by_cases hq : q = i.toNatClampNeg <;> simp [updV, va_up, hq]
theorem r_last (C : Cx p s m meth c args own nL cc D cs) (hm : mHp D cs b0 h H) (hS0 : va_S (fun q => b0 ≤ q) H0 H locs) (hdg : decode cc pc = .ok (.lastore, 1)) {o : Option Nat} {i : Int32} {v : Int64} {f : MHp → Option ρ} (hh : (pAL 21 h o i v).bind f = some res)
    (kk : ∀ (h' : MHp) (H1 : Heap) (locs1 : List Loc), pAL 21 h o i v = some h' → f h' = some res → mHp D cs b0 h' H1 → va_S (fun q => b0 ≤ q) H0 H1 locs1 → W p l e R s m args below meth c H1 locs1 cells slots Q (F0 m (pc + 1) ls rest)) : W p l e R s m args below meth c H locs cells slots Q (F0 m pc ls (.long v :: .int i :: va_rf o :: rest)) := by
  obtain ⟨x, hx, hf⟩ := Option.bind_eq_some_iff.mp hh
  have hx0 := hx
  obtain ⟨a, ha, rfl⟩ := Option.map_eq_some_iff.mp hx
  obtain ⟨rfl, hk, hin⟩ := inA_some ha
  obtain ⟨h1, hba⟩ := mA1 hm hk (by omega)
  have hKA := C.2.2.2.2.2.1.2 1 _ rfl
  refine W.last C.1 C.2.1 (h1 0 _ rfl) (hKA.1 (hN h a) (fun j => .long (hAL h a j))) (fun q => by cases q) (by show ¬ (i < 0 ∨ (arrV _ _ _).slots.size ≤ _); rw [arrV_size]; exact hin) rfl rfl hdg fun H1 e1 z oq => ?_
  refine kk _ H1 _ hx0 hf (mHp_set hm (a := a) (by omega) rfl rfl z oq (fun b hb => mE_sAL b hb) ?_) (hS0.put z oq hba)
  rw [mE_arr (by exact hk) (by omega)]
  show H1[a]? = some (vp_cell _ (hN h a, .inr (.inl (va_up (hAL h) a _ a))))
  rw [va_up_self, e1]
  show some (Cell.setSlot (vp_cell _ (hN h a, .inr (.inl (hAL h a)))) _ _) = _
  rw [vp_cell_l, vp_cell_l, arrV_store]
  refine congrArg (fun z => some (arrV _ _ z)) (funext fun q => ?_)
  by_cases hq : q = i.toNatClampNeg <;> simp [updV, va_up, hq]
theorem r_bast (C : Cx p s m meth c args own nL cc D cs) (hm : mHp D cs b0 h H) (hS0 : va_S (fun q => b0 ≤ q) H0 H locs) (hdg : decode cc pc = .ok (.bastore, 1)) {o : Option Nat} {i v : Int32} {f : MHp → Option ρ} (hh : (pAI 22 h o i v.toInt8.toInt32).bind f = some res)
    (kk : ∀ (h' : MHp) (H1 : Heap) (locs1 : List Loc), pAI 22 h o i v.toInt8.toInt32 = some h' → f h' = some res → mHp D cs b0 h' H1 → va_S (fun q => b0 ≤ q) H0 H1 locs1 → W p l e R s m args below meth c H1 locs1 cells slots Q (F0 m (pc + 1) ls rest)) : W p l e R s m args below meth c H locs cells slots Q (F0 m pc ls (.int v :: .int i :: va_rf o :: rest)) := by
  obtain ⟨x, hx, hf⟩ := Option.bind_eq_some_iff.mp hh
  have hx0 := hx
  obtain ⟨a, ha, rfl⟩ := Option.map_eq_some_iff.mp hx
  obtain ⟨rfl, hk, hin⟩ := inA_some ha
  obtain ⟨h1, hba⟩ := mA1 hm hk (by omega)
  have hKA := C.2.2.2.2.2.1.2 2 _ rfl
  refine W.bast C.1 C.2.1 (h1 0 _ rfl) (hKA.1 (hN h a) (fun j => .int (hAI h a j))) (fun q => by cases q) (by show ¬ (i < 0 ∨ (arrV _ _ _).slots.size ≤ _); rw [arrV_size]; exact hin) rfl rfl hdg fun H1 e1 z oq => ?_
  refine kk _ H1 _ hx0 hf (mHp_set hm (a := a) (by omega) rfl rfl z oq (fun b hb => mE_sAI b hb) ?_) (hS0.put z oq hba)
  rw [mE_arr (by exact hk) (by omega)]
  show H1[a]? = some (vp_cell _ (hN h a, .inl (va_up (hAI h) a _ a)))
  rw [va_up_self, e1]
  show some (Cell.setSlot (vp_cell _ (hN h a, .inl (hAI h a))) _ (.int v.toInt8.toInt32)) = _
  rw [vp_cell_i, vp_cell_i, arrV_store]
  refine congrArg (fun z => some (arrV _ _ z)) (funext fun q => ?_)
  by_cases hq : q = i.toNatClampNeg <;> simp [updV, va_up, hq]
/-- 1 into a row of truths -/
theorem r_zast1 (C : Cx p s m meth c args own nL cc D cs) (hm : mHp D cs b0 h H) (hS0 : va_S (fun q => b0 ≤ q) H0 H locs) (hdg : decode cc pc = .ok (.bastore, 1)) {o : Option Nat} {i : Int32} {f : MHp → Option ρ} (hh : (pAI 23 h o i 1).bind f = some res)
    (kk : ∀ (h' : MHp) (H1 : Heap) (locs1 : List Loc), pAI 23 h o i 1 = some h' → f h' = some res → mHp D cs b0 h' H1 → va_S (fun q => b0 ≤ q) H0 H1 locs1 → W p l e R s m args below meth c H1 locs1 cells slots Q (F0 m (pc + 1) ls rest)) : W p l e R s m args below meth c H locs cells slots Q (F0 m pc ls (.int 1 :: .int i :: va_rf o :: rest)) := by
  obtain ⟨x, hx, hf⟩ := Option.bind_eq_some_iff.mp hh
  have hx0 := hx
  obtain ⟨a, ha, rfl⟩ := Option.map_eq_some_iff.mp hx
  obtain ⟨rfl, hk, hin⟩ := inA_some ha
  obtain ⟨h1, hba⟩ := mA1 hm hk (by omega)
  have hKA := C.2.2.2.2.2.1.2 3 _ rfl
  refine W.zast C.1 C.2.1 (h1 0 _ rfl) (hKA.1 (hN h a) (fun j => .int (hAI h a j))) (fun q => by cases q) (by show ¬ (i < 0 ∨ (arrV _ _ _).slots.size ≤ _); rw [arrV_size]; exact hin) rfl rfl hdg fun H1 e1 z oq => ?_
  refine kk _ H1 _ hx0 hf (mHp_set hm (a := a) (by omega) rfl rfl z oq (fun b hb => mE_sAI b hb) ?_) (hS0.put z oq hba)
  rw [mE_arr (by exact hk) (by omega)]
  show H1[a]? = some (vp_cell _ (hN h a, .inl (va_up (hAI h) a _ a)))
  rw [va_up_self, e1]
  show some (Cell.setSlot (vp_cell _ (hN h a, .inl (hAI h a))) _ (.int 1)) = _
  rw [vp_cell_i, vp_cell_i, arrV_store]
  refine congrArg (fun z => some (arrV _ _ z)) (funext fun q => ?_)
  by_cases hq : q = i.toNatClampNeg <;> simp [updV, va_up, hq]
/-- an object into a row of objects of its class -/
theorem r_ast_q (C : Cx p s m meth c args own nL cc D cs) (hm : mHp D cs b0 h H) (hS0 : va_S (fun q => b0 ≤ q) H0 H locs) (hdg : decode cc pc = .ok (.aastore, 1)) {kd kv t0 : Nat} (h24 : 24 ≤ kd) {r : vw_C} (hkv : 0 < kv ∧ kv < 20) (hc : vwCl[kv - 1]? = some r) (ht : (tysL cs)[t0]? = some (cs kd, .object r.1)) {o v : Option Nat} {i : Int32} {f : MHp → Option ρ} (hh : (pAR kd kv h o i v).bind f = some res)
    (kk : ∀ (h' : MHp) (H1 : Heap) (locs1 : List Loc), pAR kd kv h o i v = some h' → f h' = some res → mHp D cs b0 h' H1 → va_S (fun q => b0 ≤ q) H0 H1 locs1 → W p l e R s m args below meth c H1 locs1 cells slots Q (F0 m (pc + 1) ls rest)) : W p l e R s m args below meth c H locs cells slots Q (F0 m pc ls (va_rf v :: .int i :: va_rf o :: rest)) := by
  obtain ⟨x, hx, hf⟩ := Option.bind_eq_some_iff.mp hh
  have hx0 := hx
  obtain ⟨a, ha, hx⟩ := Option.bind_eq_some_iff.mp hx
  obtain ⟨b, hb, rfl⟩ := Option.map_eq_some_iff.mp hx
  obtain ⟨rfl, hk, hin⟩ := inA_some ha
  obtain ⟨rfl, hkb⟩ := rcv_some hb
  obtain ⟨h1, hba⟩ := mA1 hm hk (by omega)
  rw [mAr_ref h24] at h1
  have hPv := mP1 hm (a := b) (by omega)
  rw [mE_obj hkb hkv.2] at hPv
  have hlt : i.toNatClampNeg < hN h a := Nat.not_le.mp fun q => hin (Or.inr q)
  have h0 : ¬ i < 0 := fun q => hin (Or.inl q)
  obtain ⟨r', hr', cellV, g1, g2, g3, -⟩ := hPv 0 _ rfl
  have hKn := C.2.2.2.2.2.1
  have hcls := (hKn.1 (kv - 1) r hc).2
  obtain ⟨kA, comp, k1, k2, k3, -⟩ := (hKn.2 t0 _ ht).2
  have hcomp : comp = D.1 (kv - 1) := Option.some.inj (k3.symm.trans hcls.1)
  subst hcomp
  obtain ⟨kC, hkC, -⟩ := hcls.2
  refine W.aast C.1 C.2.1 (h1 0 _ rfl) (fun q h => by cases h) (fun h => by cases h) k1 k2 rfl hkC ⟨h0, by show _ < (arrV _ _ _).slots.size; rw [arrV_size]; exact hlt⟩ g1 (fun q h => by rw [g3] at h; cases h) (by rw [g2]; exact hkC) (by rw [g2]; exact va_assign hcls) rfl rfl hdg fun H1 e1 z oq => ?_
  refine kk _ H1 _ hx0 hf (mHp_set hm (a := a) (by omega) rfl rfl z oq (fun b hb => mE_sAR b hb) ?_) (hS0.put z oq hba)
  rw [mE_arr (by exact hk) (by omega), mAr_ref h24]
  show H1[a]? = some (vp_cell _ (hN h a, .inr (.inr (.inr (.inr (va_up (hAR h) a _ a))))))
  rw [va_up_self, e1]
  show some (Cell.setSlot (vp_cell _ (hN h a, .inr (.inr (.inr (.inr (hAR h a)))))) _ _) = _
  rw [vp_cell_q, vp_cell_q, arrV_store]
  refine congrArg (fun z => some (arrV _ _ z)) (funext fun q => ?_)
  by_cases hq : q = i.toNatClampNeg <;> simp [updV, va_up, hq, va_rf]
end Ar

/-! which words go from a call's start to another's -/
def gd : Cond → Bool
  | .methodLinkNest .. => true
  | .fieldLinkNest .. => true
  | .castable .. => true
  | .declares .. => true
  | w => goodWord w
def tbl : List Cond := lw_tbl.filter gd
theorem in_tbl {w : Cond} (h : w ∈ lw_tbl) (g : gd w = true) : w ∈ tbl := List.mem_filter.mpr ⟨h, g⟩
theorem lay_gd {C : String} {T : u_T} {N : Nat} {w : Cond} (h : w ∈ u_ws C T N) : gd w = true := by
  obtain ⟨k, -, rfl⟩ := List.mem_map.mp h
  unfold u_lay
  split <;> rfl
theorem tb_moved {s U : State} {args a' : Array Value} (hts : ∀ w ∈ tbl, w.before args s = true) (hW : s.WarmedH U.vm) : ∀ w ∈ tbl, w.before a' U = true := by
  intro w hw
  have h1 := hts w hw
  have h2 := (List.mem_filter.mp hw).2
  unfold gd at h2
  split at h2
  · exact va_Nw.use rfl (va_Nw.warmM hW (va_Nw.of rfl h1))
  · exact va_Nw.use rfl (va_Nw.warmF hW (va_Nw.of rfl h1))
  · exact va_Nw.use rfl (va_Nw.warmC hW (va_Nw.of rfl h1))
  · exact va_Nw.use rfl (va_Nw.warmD hW (va_Nw.of rfl h1))
  · exact word_at hW (good_of_word h2) h1
def tysL (cs : Nat → ClassId) : List (ClassId × FieldType) := [(cs 20, .int), (cs 21, .long), (cs 22, .byte), (cs 23, .boolean), (cs 24, .object "CountOffice$Plan"), (cs 25, .object "CountOffice$Test"), (cs 26, .object "CountOfficeModel$Table"), (cs 27, .object "CountOfficeModel$Test")]
/-- what a method's body stands on -/
def Cx (p : Program) (s : State) (m : MethodId) (meth : Method) (c : Code) (args : Array Value) (own : String) (nL : Nat) (cc : ByteArray) (D : va_G) (cs : Nat → ClassId) : Prop :=
  p.tables.exec = Jvm.exec ∧ c.code = cc ∧ c.maxLocals = nL ∧ s.vm.findClass own = some m.cls ∧ (∀ w ∈ tbl, w.before args s = true) ∧ va_K D vwCl (tysL cs) s ∧ meth.locks = false
/-- a field by its link: the kind of its class, its place, its sort (0 int, 1 long, 2 reference) -/
def Flk (own : String) (index kd k ty : Nat) : Prop :=
  ∃ (CN ref : String) (T : u_T) (N : Nat) (ft : FieldType) (tyf : Nat → FieldType), vwCl[kd - 1]? = some (CN, T, N) ∧ k < N ∧ (∀ w ∈ u_ws CN T N, w ∈ tbl) ∧ (slT kd)[k]? = some ty ∧ ((T k).1 = ref) ∧ (0 < kd ∧ kd < 20) ∧
    (Cond.fieldLink own index ref (T k).2.1 (T k).2.2.1 ∈ tbl ∨ ∃ host, Cond.fieldLinkNest own index ref (T k).2.1 (T k).2.2.1 host ∈ tbl) ∧
    (∀ j, j < N → parseFieldDescriptor (T j).2.2.1 = some (tyf j)) ∧ (∀ a, a < N → ∀ b, b < N → a ≠ b → (T a).2.1 ≠ (T b).2.1) ∧ parseFieldDescriptor (T k).2.2.1 = some ft ∧
    (ty = 0 → ft = .int) ∧ (ty = 1 → ft = .long) ∧ (ty = 2 → (∃ n, ft = .object n) ∨ ∃ t, ft = .array t) ∧ (slT kd).length = N
/-- it isn't final -/
def Fmut (kd k : Nat) : Prop := ∀ q : vw_C, vwCl[kd - 1]? = some q → (q.2.1 k).2.2.2 = false
def Ffin (own : String) (index kd k : Nat) : Prop := ∀ q : vw_C, vwCl[kd - 1]? = some q → (q.2.1 k).2.2.2 = true ∧ (q.2.1 k).1 = own ∧ Cond.fieldLink own index own (q.2.1 k).2.1 (q.2.1 k).2.2.1 ∈ tbl
section Rw
variable {p : Program} {l : Launch} {e : Env} {R : Room} {s : State} {m : MethodId} {args : Array Value} {below : List Frame} {meth : Method} {c : Code} {H H0 : Heap} {locs : List Loc} {cells slots : Nat} {Q : State → Prop}
variable {cc : ByteArray} {pc nL b0 : Nat} {ls : Array Slot} {rest : List Value} {D : va_G} {cs : Nat → ClassId} {own : String} {h : MHp} {ρ : Type} {res : ρ}
theorem r_get_ (C : Cx p s m meth c args own nL cc D cs) (hm : mHp D cs b0 h H) {index kd k ty : Nat} (F : Flk own index kd k ty) (hdg : decode cc pc = .ok (.getfield index, 3)) {a : Nat} (hk : hK h a = kd)
    (kk : W p l e R s m args below meth c H locs cells slots Q (F0 m (pc + 3) ls (mV ty h a k :: rest))) : W p l e R s m args below meth c H locs cells slots Q (F0 m pc ls (.ref a :: rest)) := by
  obtain ⟨hx, hb, -, hown, hts, hKn, -⟩ := C
  obtain ⟨CN, ref, T, N, ft, tyf, hcl, hkN, hin, hty, hsame, hkd, hlink, -⟩ := F
  have hP := mP1 hm (a := a) (by omega)
  have he : ([(a, mE cs h a)] : va_W)[0]? = some (a, .inr (kd - 1, mFs (slT kd) 0 h a)) := by
    rw [mE_obj hk hkd.2]; rfl
  have hv : (mFs (slT kd) 0 h a)[k]? = some (mV ty h a k) := by
    rw [mFs_get, hty]; simp
  rcases hlink with hl | ⟨host, hl⟩
  · exact va_get hx hb hts hin hown hKn hP 0 he hcl k hkN (hts _ hl) (fun x hx => by rw [← hsame]; exact hx) hv hdg kk
  · exact va_getN hx hb hts hin hown hKn hP 0 he hcl k hkN (hts _ hl) (fun x hx => by rw [← hsame]; exact hx) hv hdg kk
theorem mV_fits {ty : Nat} {ft : FieldType} {h : MHp} {a k : Nat} (h0 : ty = 0 → ft = .int) (h1 : ty = 1 → ft = .long) (h2 : 2 ≤ ty → (∃ n, ft = .object n) ∨ ∃ t, ft = .array t) : narrow ft (mV ty h a k) = mV ty h a k ∧ fits ft (mV ty h a k) = true := by
  match ty with
  | 0 => rw [h0 rfl]; exact ⟨rfl, rfl⟩
  | 1 => rw [h1 rfl]; exact ⟨rfl, rfl⟩
  | n + 2 =>
    have e : mV (n + 2) h a k = va_rf (hR h a k) := rfl
    rw [e]
    cases hR h a k <;> rcases h2 (by omega) with ⟨q, rfl⟩ | ⟨q, rfl⟩ <;> exact ⟨rfl, rfl⟩
/-- a field is written: h' is h but for that -/
theorem r_put_ (C : Cx p s m meth c args own nL cc D cs) (hm : mHp D cs b0 h H) (hS0 : va_S (fun q => b0 ≤ q) H0 H locs) {index kd k ty : Nat} (hty2 : ty ≤ 2) (F : Flk own index kd k ty) (hmut : Fmut kd k ∨ (Ffin own index kd k ∧ meth.name = "<init>")) (hdg : decode cc pc = .ok (.putfield index, 3)) {a : Nat} (hk : hK h a = kd) {h' : MHp} (hkk : hK h' = hK h) (hss : hS h' = hS h)
    (hsame : ∀ (t j : Nat), j ≠ k → mV t h' a j = mV t h a j) (hoth : ∀ (b : Nat), b ≠ a → mE cs h' b = mE cs h b)
    (kk : ∀ (H1 : Heap) (locs1 : List Loc), mHp D cs b0 h' H1 → va_S (fun q => b0 ≤ q) H0 H1 locs1 → W p l e R s m args below meth c H1 locs1 cells slots Q (F0 m (pc + 3) ls rest)) : W p l e R s m args below meth c H locs cells slots Q (F0 m pc ls (mV ty h' a k :: .ref a :: rest)) := by
  obtain ⟨hx, hb, -, hown, hts, hKn, -⟩ := C
  obtain ⟨CN, ref, T, N, ft, tyf, hcl, hkN, hin, hty, hsm, hkd, hlink, hty0, hnm, hft, q0, q1, q2, hlen⟩ := F
  have hP := mP1 hm (a := a) (by omega)
  have he : ([(a, mE cs h a)] : va_W)[0]? = some (a, .inr (kd - 1, mFs (slT kd) 0 h a)) := by
    rw [mE_obj hk hkd.2]; rfl
  have hap := va_apart (own := own) hts hin tyf hty0 hnm hKn hcl
  have hv := mFs_ext (h := h) (h' := h') (a := a) hty rfl (fun j t hj => hsame t j hj)
  have hn := mV_fits (h := h') (a := a) (k := k) q0 q1 (fun hh => q2 (by omega))
  have hba : b0 ≤ a := (hm.2.2 a (by omega)).1
  have hfin : ∀ (H1 : Heap) (cell : Cell), cell.cls = D.1 (kd - 1) → cell.vm = .none → (∀ j, j < N → cell.slots[D.2 (kd - 1) j]? = some (vp_V (mFs (slT kd) 0 h a) j)) → H1[a]? = some (cell.setSlot (D.2 (kd - 1) k) (mV ty h' a k)) → H1.size = H.size → (∀ q, q ≠ a → H1[q]? = H[q]?) → mHp D cs b0 h' H1 := by
    intro H1 cell c1 c2 c3 e1 e2 e3
    refine mHp_set hm (a := a) (by omega) hkk hss e2 e3 hoth ?_
    rw [mE_obj (by rw [hkk]; exact hk) hkd.2, hv]
    exact ⟨_, hcl, t_OB.to (V := updV (vp_V (mFs (slT kd) 0 h a)) k (mV ty h' a k)) ⟨_, e1, c1, c2, t_set c3 hap hkN _⟩ (fun j _ => vp_updV_set (by rw [mFs_len, hlen]; exact hkN) _ j)⟩
  obtain ⟨r, h1, cell, g1, g2, g3, g4⟩ := hP 0 _ he
  have hr : r = (CN, T, N) := Option.some.inj (h1.symm.trans hcl)
  subst hr
  obtain ⟨hSl, hfc, kC, hkC, hkind⟩ := hKn.1 (kd - 1) _ hcl
  obtain ⟨cf, kf, fi, f, hi, hsl⟩ := hSl k hkN
  have hlay := hts _ (hin _ (u_in_lay hkN))
  have hst := (u_facts hfc hkC (u_lays hts hin hkN) hi).1
  have hsm2 : ∀ x, s.fieldFound? (T k).1 (T k).2.1 (T k).2.2.1 = some x → s.fieldFound? ref (T k).2.1 (T k).2.2.1 = some x := fun x hx => by rw [← hsm]; exact hx
  unfold u_lay at hlay
  rcases hmut with hmut | ⟨hmut, hin2⟩
  · rw [if_neg (by rw [hmut _ hcl]; decide)] at hlay
    have h6 := u_store hfc hkC hkind hlay hi hft hn.1 hn.2
    rcases hlink with hl | ⟨host, hl⟩
    · refine W.putK hx hb (f := f) ⟨hown, hts _ hl, ⟨_, _, _, hsm2 _ hi⟩, hst⟩ (by rw [g2]; exact h6) g1 g3 (by rw [hsl]; exact k2_hasslot (g4 k hkN)) rfl rfl hdg fun H' e1 e2 e3 => ?_
      rw [hsl] at e1 ⊢
      exact kk H' _ (hfin H' cell g2 g3 g4 e1 e2 e3) (hS0.put e2 e3 hba)
    · refine va_WputK hx hb (f := f) hown (hts _ hl) (hsm2 _ hi) hst (by rw [g2]; exact h6) g1 g3 (by rw [hsl]; exact k2_hasslot (g4 k hkN)) rfl rfl hdg fun H' e1 e2 e3 => ?_
      rw [hsl] at e1 ⊢
      exact kk H' _ (hfin H' cell g2 g3 g4 e1 e2 e3) (hS0.put e2 e3 hba)
  · have hq := hmut _ hcl
    rw [if_pos hq.1] at hlay
    have hcf : m.cls = cf := by
      obtain ⟨_, _, c', _, _, _, -, -, hf', -, -, -, hown2, -⟩ := Cond.laysFinal_spec hlay
      have e1 : c' = cf := by have := hi.symm.trans hf'; simp at this; exact this.1.symm
      have hq1 : (T k).1 = own := hq.2.1
      rw [hq1] at hown2
      rw [← e1]; exact Option.some.inj (hown.symm.trans hown2)
    have h6 := u_fits hfc hkC hkind (Or.inr hlay) hi hft hn.1 hn.2
    have hi2 : s.fieldFound? own (T k).2.1 (T k).2.2.1 = some (cf, kf, fi, f) := by
      have hq1 : (T k).1 = own := hq.2.1
      rw [← hq1]; exact hi
    refine W.putFinK hx hb hown (hts _ hq.2.2) hi2 hst hcf hin2 (by rw [g2]; exact h6) g1 g3 (by rw [hsl]; exact k2_hasslot (g4 k hkN)) rfl rfl hdg fun H' e1 e2 e3 => ?_
    rw [hsl] at e1 ⊢
    exact kk H' _ (hfin H' cell g2 g3 g4 e1 e2 e3) (hS0.put e2 e3 hba)
end Rw
section Rw2
variable {p : Program} {l : Launch} {e : Env} {R : Room} {s : State} {m : MethodId} {args : Array Value} {below : List Frame} {meth : Method} {c : Code} {H H0 : Heap} {locs : List Loc} {cells slots : Nat} {Q : State → Prop}
variable {cc : ByteArray} {pc nL b0 : Nat} {ls : Array Slot} {rest : List Value} {D : va_G} {cs : Nat → ClassId} {own : String} {h : MHp} {ρ : Type} {res : ρ}
theorem r_getI (C : Cx p s m meth c args own nL cc D cs) (hm : mHp D cs b0 h H) {index kd k : Nat} (F : Flk own index kd k 0) (hdg : decode cc pc = .ok (.getfield index, 3)) {o : Option Nat} {f : Int32 → Option ρ} (hh : (gI kd k h o).bind f = some res)
    (kk : ∀ x : Int32, gI kd k h o = some x → f x = some res → W p l e R s m args below meth c H locs cells slots Q (F0 m (pc + 3) ls (.int x :: rest))) : W p l e R s m args below meth c H locs cells slots Q (F0 m pc ls (va_rf o :: rest)) := by
  obtain ⟨x, hx, hf⟩ := Option.bind_eq_some_iff.mp hh
  have hx0 := hx
  obtain ⟨a, ha, rfl⟩ := Option.map_eq_some_iff.mp hx
  obtain ⟨rfl, hk⟩ := rcv_some ha
  exact r_get_ C hm F hdg hk (kk _ hx0 hf)
theorem r_getL (C : Cx p s m meth c args own nL cc D cs) (hm : mHp D cs b0 h H) {index kd k : Nat} (F : Flk own index kd k 1) (hdg : decode cc pc = .ok (.getfield index, 3)) {o : Option Nat} {f : Int64 → Option ρ} (hh : (gL kd k h o).bind f = some res)
    (kk : ∀ x : Int64, gL kd k h o = some x → f x = some res → W p l e R s m args below meth c H locs cells slots Q (F0 m (pc + 3) ls (.long x :: rest))) : W p l e R s m args below meth c H locs cells slots Q (F0 m pc ls (va_rf o :: rest)) := by
  obtain ⟨x, hx, hf⟩ := Option.bind_eq_some_iff.mp hh
  have hx0 := hx
  obtain ⟨a, ha, rfl⟩ := Option.map_eq_some_iff.mp hx
  obtain ⟨rfl, hk⟩ := rcv_some ha
  exact r_get_ C hm F hdg hk (kk _ hx0 hf)
theorem r_getR (C : Cx p s m meth c args own nL cc D cs) (hm : mHp D cs b0 h H) {index kd k : Nat} (F : Flk own index kd k 2) (hdg : decode cc pc = .ok (.getfield index, 3)) {o : Option Nat} {f : Option Nat → Option ρ} (hh : (gR kd k h o).bind f = some res)
    (kk : ∀ x : Option Nat, gR kd k h o = some x → f x = some res → W p l e R s m args below meth c H locs cells slots Q (F0 m (pc + 3) ls (va_rf x :: rest))) : W p l e R s m args below meth c H locs cells slots Q (F0 m pc ls (va_rf o :: rest)) := by
  obtain ⟨x, hx, hf⟩ := Option.bind_eq_some_iff.mp hh
  have hx0 := hx
  obtain ⟨a, ha, rfl⟩ := Option.map_eq_some_iff.mp hx
  obtain ⟨rfl, hk⟩ := rcv_some ha
  exact r_get_ C hm F hdg hk (kk _ hx0 hf)
theorem mE_sI {h : MHp} {a k : Nat} {v : Int32} (b : Nat) (hb : b ≠ a) : mE cs (sI h a k v) b = mE cs h b := by
  have e : ∀ (ts : List Nat) (j : Nat), mFs ts j (sI h a k v) b = mFs ts j h b := by
    intro ts
    induction ts with
    | nil => intro j; rfl
    | cons t ts ih =>
      intro j
      show mV t (sI h a k v) b j :: mFs ts (j + 1) (sI h a k v) b = mV t h b j :: mFs ts (j + 1) h b
      rw [ih (j + 1)]
      congr 1
      match t with
      | 0 => show Value.int (up2 (hI h) a k v b j) = _; rw [up2_row _ _ _ hb]; rfl
      | 1 => rfl
      | _ + 2 => rfl
  show (if hK h b < 20 then _ else _) = (if hK h b < 20 then _ else _)
  split
  · exact congrArg (fun q => Sum.inr (hK h b - 1, q)) (e _ 0)
  · rfl
theorem mE_sL {h : MHp} {a k : Nat} {v : Int64} (b : Nat) (hb : b ≠ a) : mE cs (sL h a k v) b = mE cs h b := by
  have e : ∀ (ts : List Nat) (j : Nat), mFs ts j (sL h a k v) b = mFs ts j h b := by
    intro ts
    induction ts with
    | nil => intro j; rfl
    | cons t ts ih =>
      intro j
      show mV t (sL h a k v) b j :: mFs ts (j + 1) (sL h a k v) b = mV t h b j :: mFs ts (j + 1) h b
      rw [ih (j + 1)]
      congr 1
      match t with
      | 0 => rfl
      | 1 => show Value.long (up2 (hL h) a k v b j) = _; rw [up2_row _ _ _ hb]; rfl
      | _ + 2 => rfl
  show (if hK h b < 20 then _ else _) = (if hK h b < 20 then _ else _)
  split
  · exact congrArg (fun q => Sum.inr (hK h b - 1, q)) (e _ 0)
  · rfl
theorem mE_sR {h : MHp} {a k : Nat} {v : Option Nat} (b : Nat) (hb : b ≠ a) : mE cs (sR h a k v) b = mE cs h b := by
  have e : ∀ (ts : List Nat) (j : Nat), mFs ts j (sR h a k v) b = mFs ts j h b := by
    intro ts
    induction ts with
    | nil => intro j; rfl
    | cons t ts ih =>
      intro j
      show mV t (sR h a k v) b j :: mFs ts (j + 1) (sR h a k v) b = mV t h b j :: mFs ts (j + 1) h b
      rw [ih (j + 1)]
      congr 1
      match t with
      | 0 => rfl
      | 1 => rfl
      | _ + 2 => show va_rf (up2 (hR h) a k v b j) = _; rw [up2_row _ _ _ hb]; rfl
  show (if hK h b < 20 then _ else _) = (if hK h b < 20 then _ else _)
  split
  · exact congrArg (fun q => Sum.inr (hK h b - 1, q)) (e _ 0)
  · rfl
theorem r_putI (C : Cx p s m meth c args own nL cc D cs) (hm : mHp D cs b0 h H) (hS0 : va_S (fun q => b0 ≤ q) H0 H locs) {index kd k : Nat} (F : Flk own index kd k 0) (hmut : Fmut kd k ∨ (Ffin own index kd k ∧ meth.name = "<init>")) (hdg : decode cc pc = .ok (.putfield index, 3)) {o : Option Nat} {v : Int32} {f : MHp → Option ρ} (hh : (pI kd k h o v).bind f = some res)
    (kk : ∀ (h' : MHp) (H1 : Heap) (locs1 : List Loc), pI kd k h o v = some h' → f h' = some res → mHp D cs b0 h' H1 → va_S (fun q => b0 ≤ q) H0 H1 locs1 → W p l e R s m args below meth c H1 locs1 cells slots Q (F0 m (pc + 3) ls rest)) : W p l e R s m args below meth c H locs cells slots Q (F0 m pc ls (.int v :: va_rf o :: rest)) := by
  obtain ⟨x, hx, hf⟩ := Option.bind_eq_some_iff.mp hh
  have hx0 := hx
  obtain ⟨a, ha, rfl⟩ := Option.map_eq_some_iff.mp hx
  obtain ⟨rfl, hk⟩ := rcv_some ha
  have e : (Value.int v :: va_rf (some a) :: rest) = mV 0 (sI h a k v) a k :: .ref a :: rest := by
    show _ = Value.int (up2 (hI h) a k v a k) :: _
    rw [up2_self]; rfl
  rw [e]
  refine r_put_ C hm hS0 (Nat.zero_le 2) F hmut hdg hk (h' := sI h a k v) rfl rfl (fun t j hj => ?_) (fun b hb => mE_sI b hb) (fun H1 locs1 h1 h2 => kk _ H1 locs1 hx0 hf h1 h2)
  match t with
  | 0 => show Value.int (up2 (hI h) a k v a j) = _; rw [up2_in, if_neg hj]; rfl
  | 1 => rfl
  | _ + 2 => rfl
theorem r_putL (C : Cx p s m meth c args own nL cc D cs) (hm : mHp D cs b0 h H) (hS0 : va_S (fun q => b0 ≤ q) H0 H locs) {index kd k : Nat} (F : Flk own index kd k 1) (hmut : Fmut kd k ∨ (Ffin own index kd k ∧ meth.name = "<init>")) (hdg : decode cc pc = .ok (.putfield index, 3)) {o : Option Nat} {v : Int64} {f : MHp → Option ρ} (hh : (pL kd k h o v).bind f = some res)
    (kk : ∀ (h' : MHp) (H1 : Heap) (locs1 : List Loc), pL kd k h o v = some h' → f h' = some res → mHp D cs b0 h' H1 → va_S (fun q => b0 ≤ q) H0 H1 locs1 → W p l e R s m args below meth c H1 locs1 cells slots Q (F0 m (pc + 3) ls rest)) : W p l e R s m args below meth c H locs cells slots Q (F0 m pc ls (.long v :: va_rf o :: rest)) := by
  obtain ⟨x, hx, hf⟩ := Option.bind_eq_some_iff.mp hh
  have hx0 := hx
  obtain ⟨a, ha, rfl⟩ := Option.map_eq_some_iff.mp hx
  obtain ⟨rfl, hk⟩ := rcv_some ha
  have e : (Value.long v :: va_rf (some a) :: rest) = mV 1 (sL h a k v) a k :: .ref a :: rest := by
    show _ = Value.long (up2 (hL h) a k v a k) :: _
    rw [up2_self]; rfl
  rw [e]
  refine r_put_ C hm hS0 (by omega) F hmut hdg hk (h' := sL h a k v) rfl rfl (fun t j hj => ?_) (fun b hb => mE_sL b hb) (fun H1 locs1 h1 h2 => kk _ H1 locs1 hx0 hf h1 h2)
  match t with
  | 0 => rfl
  | 1 => show Value.long (up2 (hL h) a k v a j) = _; rw [up2_in, if_neg hj]; rfl
  | _ + 2 => rfl
theorem r_putR (C : Cx p s m meth c args own nL cc D cs) (hm : mHp D cs b0 h H) (hS0 : va_S (fun q => b0 ≤ q) H0 H locs) {index kd k : Nat} (F : Flk own index kd k 2) (hmut : Fmut kd k ∨ (Ffin own index kd k ∧ meth.name = "<init>")) (hdg : decode cc pc = .ok (.putfield index, 3)) {o v : Option Nat} {f : MHp → Option ρ} (hh : (pR kd k h o v).bind f = some res)
    (kk : ∀ (h' : MHp) (H1 : Heap) (locs1 : List Loc), pR kd k h o v = some h' → f h' = some res → mHp D cs b0 h' H1 → va_S (fun q => b0 ≤ q) H0 H1 locs1 → W p l e R s m args below meth c H1 locs1 cells slots Q (F0 m (pc + 3) ls rest)) : W p l e R s m args below meth c H locs cells slots Q (F0 m pc ls (va_rf v :: va_rf o :: rest)) := by
  obtain ⟨x, hx, hf⟩ := Option.bind_eq_some_iff.mp hh
  have hx0 := hx
  obtain ⟨a, ha, rfl⟩ := Option.map_eq_some_iff.mp hx
  obtain ⟨rfl, hk⟩ := rcv_some ha
  have e : (va_rf v :: va_rf (some a) :: rest) = mV 2 (sR h a k v) a k :: .ref a :: rest := by
    show _ = va_rf (up2 (hR h) a k v a k) :: _
    rw [up2_self]; rfl
  rw [e]
  refine r_put_ C hm hS0 (by omega) F hmut hdg hk (h' := sR h a k v) rfl rfl (fun t j hj => ?_) (fun b hb => mE_sR b hb) (fun H1 locs1 h1 h2 => kk _ H1 locs1 hx0 hf h1 h2)
  match t with
  | 0 => rfl
  | 1 => rfl
  | _ + 2 => show va_rf (up2 (hR h) a k v a j) = _; rw [up2_in, if_neg hj]; rfl
end Rw2

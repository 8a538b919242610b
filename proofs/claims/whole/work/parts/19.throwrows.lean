def QU {τ : Type} (G : Env0) (f : τ → Option Value) (res : (τ ⊕ Nat) × MHp) : Array Value → State → Outcome → State → Prop := fun a st oc t => ∃ v : τ, res.1 = .inl v ∧ QG G (f v) res.2 a st oc t
def XU {τ : Type} (G : Env0) (res : (τ ⊕ Nat) × MHp) : String → Addr → State → State → Prop := fun E q st t => E = "CountOfficeModel$Stop" ∧ res.1 = .inr q ∧ mHp (gD G) (gC G) (gB G) res.2 t.heap ∧ va_F (fun q => gB G ≤ q) st t
/-- a method that returns, or throws the reference's Stop -/
def UG {τ : Type} (l : Launch) (y : MethodName) (cc : ByteArray) (nL : Nat) (rt : Option FieldType) (fr lo mc ms : Nat) (G : Env0) (h : MHp) (vs : List Value) (f : τ → Option Value) (res : (τ ⊕ Nat) × MHp) : Prop :=
  ux_Met l y [Cond.code y cc nL rt] ({ frames := fr, cells := mc, slots := ms, locals := lo }) (va_Pc vs (Wd G h)) (QU G f res) (XU G res) mc ms (fun q => gB G ≤ q)
/-- a method with a table of its own, that returns -/
def MGW (l : Launch) (y : MethodName) (cc : ByteArray) (nL : Nat) (rt : Option FieldType) (hh : List (Nat × Nat × Nat × Nat)) (fr lo mc ms : Nat) (G : Env0) (h : MHp) (vs : List Value) (v : Option Value) (h1 : MHp) : Prop :=
  Met l y [Cond.codeWith y cc nL rt hh] ({ frames := fr, cells := mc, slots := ms, locals := lo }) (va_Pc vs (Wd G h)) (QG G v h1) mc ms (fun q => gB G ≤ q)
section UEn
variable {τ : Type} {l : Launch} {y : MethodName} {cc : ByteArray} {nL fr lo mc ms : Nat} {rt : Option FieldType} {G : Env0} {h h1 : MHp} {vs : List Value} {f : τ → Option Value} {res : (τ ⊕ Nat) × MHp} {v : Option Value}
theorem UG_of {own : String} (hpl : plainName y.cls = true) (ho : y.cls = own) (hlen : (lg_sl vs).length ≤ nL)
    (body : ∀ {p : Program} {e : Env} {s : State} {m : MethodId} {args : Array Value} {below : List Frame} {meth : Method} {c : Code} {Q : State → Prop} {ls : Array Slot}, Q = ux_MQ below (QU G f res) (XU G res) args s mc ms (fun q => gB G ≤ q) → Cx p s m meth c args own nL cc (gD G) (gC G) → Ex G s s.heap → (∀ x ∈ c.exceptionTable.toList, False) → mHp (gD G) (gC G) (gB G) h s.heap → va_S (fun q => gB G ≤ q) s.heap s.heap [] → lv_has ls nL (lv_args 0 vs) → meth.sig.returnType = rt →
      W p l e ({ frames := fr, cells := mc, slots := ms, locals := lo }) s m args below meth c s.heap [] 0 0 Q (F0 m 0 ls [])) : UG l y cc nL rt fr lo mc ms G h vs f res := by
  refine ux_ofW (cc := cc) (maxL := nL) (ret := rt) hpl rfl ?_
  intro p e s m args below meth c s₁ B hml hx hv
  obtain ⟨rfl, ht, hK, hm, hE⟩ := hv
  have hown : s.vm.findClass own = some m.cls := by rw [← ho]; exact findClass_of_methodNamed B.named
  rw [lg_entry_eq]
  exact body rfl ⟨B.exec, B.bytes, hml, hown, ht _, hK, B.notSynchronized⟩ hE hx hm va_S.rf (lv_entry vs hlen) B.returns
theorem MGW_of {own : String} {hh : List (Nat × Nat × Nat × Nat)} (hpl : plainName y.cls = true) (ho : y.cls = own) (hlen : (lg_sl vs).length ≤ nL)
    (body : ∀ {p : Program} {e : Env} {s : State} {m : MethodId} {args : Array Value} {below : List Frame} {meth : Method} {c : Code} {Q : State → Prop} {ls : Array Slot}, Q = MQ below (QG G v h1) args s mc ms (fun q => gB G ≤ q) → Cx p s m meth c args own nL cc (gD G) (gC G) → Ex G s s.heap → c.exceptionTable.toList = tableOf hh → mHp (gD G) (gC G) (gB G) h s.heap → va_S (fun q => gB G ≤ q) s.heap s.heap [] → lv_has ls nL (lv_args 0 vs) → meth.sig.returnType = rt →
      W p l e ({ frames := fr, cells := mc, slots := ms, locals := lo }) s m args below meth c s.heap [] 0 0 Q (F0 m 0 ls [])) : MGW l y cc nL rt hh fr lo mc ms G h vs v h1 := by
  unfold MGW Met
  refine MetFree.of_bodyS (code := cc) (maxLocals := nL) (ret := rt) hpl ?_ ?_
  · intro args s m h hn
    obtain ⟨m9, meth, c, hn9, h1, h2, h3, h4, -, h5, h6, -⟩ := Cond.codeWith_spec (atoms_spec (ws := [Cond.codeWith y cc nL rt hh]) h _ List.mem_cons_self)
    cases hn.symm.trans hn9
    exact ⟨meth, c, h1, h2, h3, h4, h5, h6⟩
  · intro p e s m args below meth c s₁ B hml hP _
    have hh0 : s₁.heap = s.heap := by rw [B.state]; rfl
    obtain ⟨rfl, ht, hK, hm, hE⟩ := hP
    have hown : s.vm.findClass own = some m.cls := by rw [← ho]; exact findClass_of_methodNamed B.named
    have htab := vx_table (x := y) B (atoms_spec (ws := [Cond.codeWith y cc nL rt hh]) B.pre _ List.mem_cons_self)
    have hw : W p l e ({ frames := fr, cells := mc, slots := ms, locals := lo }) s m vs.toArray below meth c s.heap [] 0 0 (MQ below (QG G v h1) vs.toArray s mc ms (fun q => gB G ≤ q)) (entryFrame m vs.toArray nL) := by
      rw [lg_entry_eq]
      exact body rfl ⟨B.exec, B.bytes, hml, hown, ht _, hK, B.notSynchronized⟩ hE htab hm va_S.rf (lv_entry vs hlen) B.returns
    obtain ⟨t, a1, o, b1, b2, b3⟩ := hw s₁ hh0 (Stand.of_body B)
    exact ⟨t, o, a1, b1, b2, ⟨b3.1, b3.2⟩⟩
end UEn
section URw
variable {p : Program} {l : Launch} {e : Env} {R : Room} {s : State} {m : MethodId} {args : Array Value} {below : List Frame} {meth : Method} {c : Code} {H : Heap} {locs : List Loc} {cells slots mc ms : Nat} {Q : State → Prop}
variable {cc : ByteArray} {pc nL : Nat} {ls : Array Slot} {rest : List Value} {own : String} {G : Env0} {h : MHp} {ρ : Type} {res : ρ}
theorem stop_cell (C : Cx p s m meth c args own nL cc (gD G) (gC G)) (hm : mHp (gD G) (gC G) (gB G) h H) {q : Nat} (hk : hK h q = 14) : ∃ ce : Cell, H[q]? = some ce ∧ ce.vm = .none ∧ s.vm.findClass "CountOfficeModel$Stop" = some ce.cls := by
  have hP := mP1 hm (a := q) (by omega)
  rw [mE_obj hk (by omega)] at hP
  obtain ⟨r, h1, cell, g1, g2, g3, -⟩ := hP 0 _ rfl
  have hr := (C.2.2.2.2.2.1.1 13 _ rfl).2.1
  exact ⟨cell, g1, g3, by rw [g2]; exact hr⟩
theorem r_uret {τ : Type} {f : τ → Option Value} {res : (τ ⊕ Nat) × MHp} (hQ : Q = ux_MQ below (QU G f res) (XU G res) args s mc ms (fun q => gB G ≤ q)) {g : JFrame} (kk : W p l e R s m args below meth c H locs mc ms (MQ below (QU G f res) args s mc ms (fun q => gB G ≤ q)) g) : W p l e R s m args below meth c H locs mc ms Q g := by
  subst hQ
  exact ux_ret kk
theorem r_uretI {res : (Int32 ⊕ Nat) × MHp} {r : Int32} (hQ : Q = ux_MQ below (QU G (fun v => some (.int v)) res) (XU G res) args s mc ms (fun q => gB G ≤ q)) (C : Cx p s m meth c args own nL cc (gD G) (gC G)) (hr : meth.sig.returnType = some .int) (hm : mHp (gD G) (gC G) (gB G) h H) (hS : va_S (fun q => gB G ≤ q) s.heap H locs) (hh : some (Sum.inl r, h) = some res) (hdg : decode cc pc = .ok (.ireturn, 1)) : W p l e R s m args below meth c H locs mc ms Q (F0 m pc ls [.int r]) := by
  cases hh
  exact r_uret hQ (W.iret C.1 C.2.1 hr (fun t ht _ => ⟨r, rfl, qg_of hm hS t ht⟩) hS.2.2 hdg C.2.2.2.2.2.2)
theorem r_uretV {res : (Unit ⊕ Nat) × MHp} (hQ : Q = ux_MQ below (QU G (fun _ => none) res) (XU G res) args s mc ms (fun q => gB G ≤ q)) (C : Cx p s m meth c args own nL cc (gD G) (gC G)) (hr : meth.sig.returnType = none) (hm : mHp (gD G) (gC G) (gB G) h H) (hS : va_S (fun q => gB G ≤ q) s.heap H locs) (hh : some (Sum.inl (), h) = some res) (hdg : decode cc pc = .ok (.return_, 1)) : W p l e R s m args below meth c H locs mc ms Q (F0 m pc ls []) := by
  cases hh
  exact r_uret hQ (W.vret C.1 C.2.1 hr (fun t ht _ => ⟨(), rfl, qg_of hm hS t ht⟩) hS.2.2 hdg C.2.2.2.2.2.2)
theorem r_uretA {res : (Option Nat ⊕ Nat) × MHp} {r : Option Nat} (hQ : Q = ux_MQ below (QU G (fun v => some (va_rf v)) res) (XU G res) args s mc ms (fun q => gB G ≤ q)) (C : Cx p s m meth c args own nL cc (gD G) (gC G)) {rt : FieldType} (hr : meth.sig.returnType = some rt) (hrt : (∃ n, rt = .object n) ∨ ∃ t, rt = .array t) (hm : mHp (gD G) (gC G) (gB G) h H) (hS : va_S (fun q => gB G ≤ q) s.heap H locs) (hh : some (Sum.inl r, h) = some res) (hdg : decode cc pc = .ok (.areturn, 1)) : W p l e R s m args below meth c H locs mc ms Q (F0 m pc ls [va_rf r]) := by
  cases hh
  exact r_uret hQ (W.aret C.1 C.2.1 hr hrt (by cases r with | none => exact Or.inl rfl | some a => exact Or.inr ⟨a, rfl⟩) (fun t ht _ => ⟨r, rfl, qg_of hm hS t ht⟩) hS.2.2 hdg C.2.2.2.2.2.2)
/-- the reference's Stop is thrown, and leaves -/
theorem r_uthrow {τ : Type} {f : τ → Option Value} {res : (τ ⊕ Nat) × MHp} (hQ : Q = ux_MQ below (QU G f res) (XU G res) args s mc ms (fun q => gB G ≤ q)) (C : Cx p s m meth c args own nL cc (gD G) (gC G)) (hx0 : ∀ x ∈ c.exceptionTable.toList, False) (hm : mHp (gD G) (gC G) (gB G) h H) (hS : va_S (fun q => gB G ≤ q) s.heap H locs) {o : Option Nat} (hh : ((rcv 14 h o).bind fun q => some (Sum.inr q, h)) = some res) (hc : cells ≤ mc ∧ slots ≤ ms) (hdg : decode cc pc = .ok (.athrow, 1)) : W p l e R s m args below meth c H locs cells slots Q (F0 m pc ls (va_rf o :: rest)) := by
  obtain ⟨q, hq, hh2⟩ := Option.bind_eq_some_iff.mp hh
  obtain ⟨rfl, hk⟩ := rcv_some hq
  cases hh2
  subst hQ
  obtain ⟨ce, e1, e2, e3⟩ := stop_cell C hm hk
  intro T hT X
  obtain ⟨st1, hrun, hend, hW, hsm⟩ := X.athrowLeaves C.1 (g := F0 m pc ls (.ref q :: rest)) rfl rfl rfl (fun x hx => (hx0 x hx).elim) rfl (by rw [C.2.1]; exact hdg) C.2.2.2.2.2.2
  refine ⟨_, st1, .threw q, hrun, hend, Or.inr ⟨q, rfl, "CountOfficeModel$Stop", ce, locs, ⟨rfl, rfl, ?_, hS.F hT⟩, ?_, e2, e3, hW, hsm.mono hc.1 hc.2, hS.2.2⟩⟩
  · show mHp _ _ _ h T.heap
    rw [hT]; exact hm
  · show T.heap[q]? = some ce
    rw [hT]; exact e1
/-- what a callee threw goes on -/
theorem r_uout {τ : Type} {f : τ → Option Value} {res : (τ ⊕ Nat) × MHp} (hQ : Q = ux_MQ below (QU G f res) (XU G res) args s mc ms (fun q => gB G ≤ q)) (C : Cx p s m meth c args own nL cc (gD G) (gC G)) (hx0 : ∀ x ∈ c.exceptionTable.toList, False) {q : Nat} (hm : mHp (gD G) (gC G) (gB G) h H) (hS : va_S (fun q => gB G ≤ q) s.heap H locs) {ce : Cell} (hce : H[q]? = some ce) (hv : ce.vm = .none) (hcl : s.vm.findClass "CountOfficeModel$Stop" = some ce.cls) (hh : some (Sum.inr q, h) = some res) (hc : cells ≤ mc ∧ slots ≤ ms) : ux_W p l e R s m args below meth c H locs cells slots Q (F0 m pc ls rest) q := by
  cases hh
  subst hQ
  exact ux_out (fun x hx => (hx0 x hx).elim) C.2.2.2.2.2.2 hce hv hcl (fun t ht _ => ⟨rfl, rfl, by rw [ht]; exact hm, hS.F ht⟩) hS.2.2 hc.1 hc.2
theorem ux_callG {τ : Type} {f : τ → Option Value} {r : (τ ⊕ Nat) × MHp} {a : Array Value} {H0 : Heap} {st0 : List Value} (hr : ux_Run p l e R s m args below meth c H locs cells slots mc ms (F0 m pc ls st0) rest (QU G f r a) (XU G r) (fun q => gB G ≤ q)) (hS : va_S (fun q => gB G ≤ q) H0 H locs)
    (kx : ∀ (q : Nat) (ce : Cell) (H1 : Heap) (locs1 : List Loc), r.1 = .inr q → mHp (gD G) (gC G) (gB G) r.2 H1 → va_S (fun q => gB G ≤ q) H0 H1 locs1 → H1[q]? = some ce → ce.vm = .none → s.vm.findClass "CountOfficeModel$Stop" = some ce.cls → ux_W p l e R s m args below meth c H1 locs1 (cells + mc) (slots + ms) Q (F0 m pc ls rest) q)
    (kk : ∀ (v : τ) (H1 : Heap) (locs1 : List Loc), r.1 = .inl v → mHp (gD G) (gC G) (gB G) r.2 H1 → va_S (fun q => gB G ≤ q) H0 H1 locs1 → W p l e R s m args below meth c H1 locs1 (cells + mc) (slots + ms) Q (F0 m (pc + 3) ls ((f v).toList ++ rest))) : W p l e R s m args below meth c H locs cells slots Q (F0 m pc ls st0) := by
  intro T hT X
  have keep : ∀ {st t : State} {L : List Loc} {T' : State}, st.heap = H → T'.heap = t.heap → (∀ q ∈ L, gB G ≤ q.base) → va_F (fun q => gB G ≤ q) st t → va_S (fun q => gB G ≤ q) H0 T'.heap (locs ++ L) := by
    intro st t L T' h0 e1 hL hF
    obtain ⟨hz, hk⟩ := hF
    rw [h0] at hz hk
    exact ⟨Nat.le_trans hS.1 (by rw [e1]; exact hz), fun q h1 h2 => by rw [e1, hk q (Nat.lt_of_lt_of_le h1 hS.1) h2]; exact hS.2.1 q h1 h2, fun q hq => by
      rcases List.mem_append.mp hq with h | h
      · exact hS.2.2 q h
      · exact hL q h⟩
  rcases hr T hT X with ⟨v, st₀, t, T', L, h0, X', hL, e1, e2, ⟨v0, hv0, hv, hm, hF⟩, st⟩ | ⟨q, st₀, t, T', L, E, ce, h0, X', hL, e1, e2, ⟨rfl, hq, hm, hF⟩, hce, hcv, hcl, st⟩
  · cases hv
    obtain ⟨t2, a1, b1⟩ := kk v0 T'.heap (locs ++ L) hv0 (by rw [e1]; exact hm) (keep h0 e1 hL hF) T' rfl X'
    exact ⟨t2, st t2 a1, b1⟩
  · obtain ⟨t2, a1, b1⟩ := kx q ce T'.heap (locs ++ L) hq (by rw [e1]; exact hm) (keep h0 e1 hL hF) (by rw [e1]; exact hce) hcv hcl T' rfl X'
    exact ⟨t2, st.trans a1, b1⟩
/-- a call of an object's method that may throw -/
theorem r_uV {τ : Type} (C : Cx p s m meth c args own nL cc (gD G) (gC G)) (X : Ex G s s.heap) (hm : mHp (gD G) (gC G) (gB G) h H) (hS : va_S (fun q => gB G ≤ q) s.heap H locs) {y : MethodName} {ccy : ByteArray} {nLy fr lo n index kd : Nat} {rt : Option FieldType} {o : Option Nat} {As : List Value} (F : Mlk own index y ccy nLy rt n) (hl : Cond.methodLink own index y ∈ tbl) (V : Cond.instanceMethod y ∈ tbl ∧ Cond.selects y.cls y y ∈ tbl ∧ (0 < kd ∧ kd < 20) ∧ ∃ q : vw_C, vwCl[kd - 1]? = some q ∧ q.1 = y.cls)
    {g : Nat → Option ((τ ⊕ Nat) × MHp)} {f : Nat → (τ ⊕ Nat) × MHp → Option ρ} (hh : ((rcv kd h o).bind fun b => (g b).bind (f b)) = some res) {vv : τ → Option Value} (hM : ∀ (b : Nat) (r : (τ ⊕ Nat) × MHp), g b = some r → UG l y ccy nLy rt fr lo mc ms G h (.ref b :: As) vv r) (hn : As.length = n) {st0 : List Value} (hst : st0 = As.reverse ++ va_rf o :: rest) (hW : (rest.map fun v => v.category).sum ≤ 8) (hfr : fr + 1 ≤ R.frames) (hlo : 8 + (nLy + 11) + lo ≤ R.locals) (hsz : ls.size = nL) (hf : cells + mc ≤ R.cells ∧ slots + ms ≤ R.slots) (hdg : decode cc pc = .ok (.invokevirtual index, 3))
    (kx : ∀ (q b : Nat) (h1 : MHp) (ce : Cell) (H1 : Heap) (locs1 : List Loc), g b = some (.inr q, h1) → f b (.inr q, h1) = some res → mHp (gD G) (gC G) (gB G) h1 H1 → va_S (fun q => gB G ≤ q) s.heap H1 locs1 → H1[q]? = some ce → ce.vm = .none → s.vm.findClass "CountOfficeModel$Stop" = some ce.cls → ux_W p l e R s m args below meth c H1 locs1 (cells + mc) (slots + ms) Q (F0 m pc ls rest) q)
    (kk : ∀ (b : Nat) (v : τ) (h1 : MHp) (H1 : Heap) (locs1 : List Loc), g b = some (.inl v, h1) → f b (.inl v, h1) = some res → mHp (gD G) (gC G) (gB G) h1 H1 → va_S (fun q => gB G ≤ q) s.heap H1 locs1 → W p l e R s m args below meth c H1 locs1 (cells + mc) (slots + ms) Q (F0 m (pc + 3) ls ((vv v).toList ++ rest))) : W p l e R s m args below meth c H locs cells slots Q (F0 m pc ls st0) := by
  obtain ⟨b, hb, hh⟩ := Option.bind_eq_some_iff.mp hh
  obtain ⟨r, hg, hf2⟩ := Option.bind_eq_some_iff.mp hh
  obtain ⟨rfl, hk⟩ := rcv_some hb
  obtain ⟨v1, v2, hkd, q, hq, hqc⟩ := V
  subst hst
  have hP := mP1 hm (a := b) (by omega)
  rw [mE_obj hk hkd.2] at hP
  have hrec := va_recv C.2.2.2.2.2.1 hP (ci := kd - 1) (q0 := 0) hq rfl
  rw [hqc] at hrec
  have hpre := preW C X hm hS (As := .ref b :: As)
  have hts := C.2.2.2.2.1
  obtain ⟨r1, h1⟩ := r
  refine W.eq (g2 := F0 m pc ls (As.reverse ++ .ref b :: rest)) rfl (ux_callG (ux_runV (As := As) (rest := rest) ⟨C.1, C.2.1, C.2.2.1, C.2.2.2.1, hts⟩ (hM b _ hg) ⟨r_roomB C F hl hfr hlo, hts _ v1, hts _ v2⟩ ⟨hpre.1, hrec, hpre.2⟩ rfl hn hsz rfl (lv_room hW) hdg hf) hS ?_ ?_)
  · intro q2 ce H1 locs1 e1 a1 a2 a3 a4 a5
    cases e1
    exact kx q2 b h1 ce H1 locs1 hg hf2 a1 a2 a3 a4 a5
  · intro v H1 locs1 e1 a1 a2
    cases e1
    exact kk b v h1 H1 locs1 hg hf2 a1 a2
end URw
/-- a link of a method that has a table of its own -/
def MlkW (own : String) (index : Nat) (y : MethodName) (cc : ByteArray) (nL : Nat) (rt : Option FieldType) (hhs : List (Nat × Nat × Nat × Nat)) (n : Nat) : Prop :=
  Cond.methodLink own index y ∈ tbl ∧ Cond.codeWith y cc nL rt hhs ∈ tbl ∧ Cond.initialized y.cls ∈ tbl ∧ (y.cls ≠ "java/lang/invoke/MethodHandle" ∧ y.cls ≠ "java/lang/invoke/VarHandle" ∧ (parseMethodDescriptor y.desc).map (fun d => d.parameters.length) = some n)

/-! what lies below the program's own cells: the rows of numbers of its class, the texts of the reference, the words on rows of objects -/
def stF (k : Nat) : String := match k with | 0 => "SETTINGS_AT_FIRST" | 1 => "SETTINGS_LEAST" | _ => "SETTINGS_MOST"
def stV (k : Nat) (j : Nat) : Int32 := match k with
  | 0 => ([3, 3, 10, 0] : List Int32).getD j 0
  | 1 => ([1, 1, 1, 0] : List Int32).getD j 0
  | _ => ([20, 50, 99, 1000] : List Int32).getD j 0
def sxI (i : Nat) : Nat := ([172, 178, 180, 182, 184, 186, 188, 225, 237] : List Nat).getD i 0
def sxT (i : Nat) : String := (["field", "never", "and", "count", "sum", "by", "where", "top", "cost"] : List String).getD i ""
def sxL : List Nat := [5, 5, 3, 5, 3, 2, 5, 3, 4]
def sxB : List (List Int32) := [[102, 105, 101, 108, 100], [110, 101, 118, 101, 114], [97, 110, 100], [99, 111, 117, 110, 116], [115, 117, 109], [98, 121], [119, 104, 101, 114, 101], [116, 111, 112], [99, 111, 115, 116]]
def ExSt (b0 : Nat) (sa : Nat → Nat) (U : State) (H : Heap) : Prop := ∀ k : Nat, k < 3 → va_Z "CountOffice" (stF k) "[I" (.ref (sa k)) (fun q => b0 ≤ q) U H ∧ va_T .int (sa k) 4 (fun j => .int (stV k j)) (fun q => b0 ≤ q) U H ∧ ∃ cell : Cell, H[sa k]? = some cell ∧ cell.slots.size = 4 ∧ U.vm.findClass "[I" = some cell.cls
def ExTx (b0 : Nat) (adK adV : Nat → Nat) (U : State) (H : Heap) : Prop := (∀ i : Nat, i < 9 → vk_R "CountOfficeModel" (sxI i) (sxT i) (adK i) U) ∧ vk_S 9 sxL sxB adK adV (fun q => b0 ≤ q) U H
def ExAO (U : State) : Prop := va_AO "CountOffice$Plan" U ∧ va_AO "CountOffice$Test" U ∧ va_AO "CountOfficeModel$Table" U ∧ va_AO "CountOfficeModel$Test" U
/-- the launch's own addresses: class numbers and slots, row classes, the program's first cell, the class's rows of numbers, the reference's texts -/
def Env0 : Type := va_G × (Nat → ClassId) × Nat × (Nat → Nat) × (Nat → Nat) × (Nat → Nat)
def ExMi (b0 : Nat) (U : State) (H : Heap) : Prop := va_Z "java/lang/String" "COMPACT_STRINGS" "Z" (.int 1) (fun q => b0 ≤ q) U H ∧ vx_Zq Bundle.tN "UNASSIGNED_STACK" Bundle.steD (fun q => b0 ≤ q) U H ∧ vx_Zq Bundle.tN "SUPPRESSED_SENTINEL" Bundle.listD (fun q => b0 ≤ q) U H ∧ va_Zq "jdk/internal/util/Preconditions" "SIOOBE_FORMATTER" "Ljava/util/function/BiFunction;" (fun q => b0 ≤ q) U H
def Ex (G : Env0) (U : State) (H : Heap) : Prop := ExSt G.2.2.1 G.2.2.2.1 U H ∧ ExTx G.2.2.1 G.2.2.2.2.1 G.2.2.2.2.2 U H ∧ ExAO U ∧ ExMi G.2.2.1 U H
theorem ExAO.moved {u U : State} (hvm : u.vm.Alike U.vm) (h : ExAO u) : ExAO U := ⟨h.1.moved hvm, h.2.1.moved hvm, h.2.2.1.moved hvm, h.2.2.2.moved hvm⟩
theorem Ex.go {G : Env0} {s U : State} {H H1 : Heap} (hW : s.WarmedH U.vm) (h : Ex G s H) (hq : ∀ a : Nat, a < H.size → ¬ (G.2.2.1 ≤ a) → H1[a]? = H[a]?) : Ex G U H1 :=
  ⟨fun k hk => ⟨(va_Z.moved hW.alike (h.1 k hk).1).kept hq, (va_T.moved hW.alike (h.1 k hk).2.1).kept hq, by
    obtain ⟨cell, h1, h2, h3⟩ := (h.1 k hk).2.2
    exact ⟨cell, by rw [hq _ (Array.getElem?_eq_some_iff.mp h1).1 (va_T.out (h.1 k hk).2.1)]; exact h1, h2, by rw [hW.alike.findClass]; exact h3⟩⟩, ⟨fun i hi => vk_R.warm hW (h.2.1.1 i hi), (vk_S.moved hW.alike h.2.1.2).kept hq⟩, h.2.2.1.moved hW.alike, (va_Z.moved hW.alike h.2.2.2.1).kept hq, (vx_Zq.moved hW.alike h.2.2.2.2.1).kept hq, (vx_Zq.moved hW.alike h.2.2.2.2.2.1).kept hq, (va_Zq.moved hW.alike h.2.2.2.2.2.2).kept hq⟩
abbrev gD (G : Env0) : va_G := G.1
abbrev gC (G : Env0) : Nat → ClassId := G.2.1
abbrev gB (G : Env0) : Nat := G.2.2.1
/-- the world of a call: the tables' words, the classes, the heap of numbers, what lies below -/
def Wd (G : Env0) (h : MHp) (U : State) : Prop := (∀ (a : Array Value), ∀ w ∈ tbl, w.before a U = true) ∧ va_K (gD G) vwCl (tysL (gC G)) U ∧ mHp (gD G) (gC G) (gB G) h U.heap ∧ Ex G U U.heap
theorem Wd.blind {G : Env0} {h : MHp} {vs : List Value} : FrameBlind (va_Pc vs (Wd G h)) := by
  intro a U g mk q
  obtain ⟨q0, q1, q2, q3, q4⟩ := q
  have hW : U.WarmedH (U.calling g mk a).vm := State.WarmedH.refl U
  exact ⟨q0, fun a' => tb_moved (q1 #[]) hW, va_K.moved hW.alike q2, q3, Ex.go hW q4 (fun _ _ _ => rfl)⟩
/-- what a call leaves: its answer, the heap of numbers -/
def QG (G : Env0) (v : Option Value) (h1 : MHp) : Array Value → State → Outcome → State → Prop := fun _ st oc t => oc = .returned v ∧ mHp (gD G) (gC G) (gB G) h1 t.heap ∧ va_F (fun q => gB G ≤ q) st t
def MG (l : Launch) (y : MethodName) (cc : ByteArray) (nL : Nat) (rt : Option FieldType) (fr lo mc ms : Nat) (G : Env0) (h : MHp) (vs : List Value) (v : Option Value) (h1 : MHp) : Prop :=
  Met l y [Cond.code y cc nL rt] ({ frames := fr, cells := mc, slots := ms, locals := lo }) (va_Pc vs (Wd G h)) (QG G v h1) mc ms (fun q => gB G ≤ q)
/-- a method's link -/
def Mlk (own : String) (index : Nat) (y : MethodName) (cc : ByteArray) (nL : Nat) (rt : Option FieldType) (n : Nat) : Prop :=
  (Cond.methodLink own index y ∈ tbl ∨ ∃ host, Cond.methodLinkNest own index y host ∈ tbl) ∧ Cond.code y cc nL rt ∈ tbl ∧ Cond.initialized y.cls ∈ tbl ∧ (y.cls ≠ "java/lang/invoke/MethodHandle" ∧ y.cls ≠ "java/lang/invoke/VarHandle" ∧ (parseMethodDescriptor y.desc).map (fun d => d.parameters.length) = some n)
theorem Met_ofWF {l : Launch} {y : MethodName} {ws ws' : List Cond} {rm : Room} {Pc : Array Value → State → Prop} {Qc : Array Value → State → Outcome → State → Prop} {mc ms : Nat} {free : Addr → Prop} {cc : ByteArray} {maxL : Nat} {ret : Option FieldType}
    (hy : plainFor y = true) (hw : ws = Cond.code y cc maxL ret :: ws')
    (body : ∀ p e s m args below meth c s₁, BodyLoose p l y (headSpec ws rm) cc maxL ret e s m args below meth c s₁ → c.maxLocals = maxL → Pc args s →
      W p l e (headSpec ws rm).room s m args below meth c s.heap [] 0 0 (MQ below Qc args s mc ms free) (entryFrame m args maxL)) : Met l y ws rm Pc Qc mc ms free := by
  refine MetFree.of_bodySF (code := cc) (maxLocals := maxL) (ret := ret) hy ?_ ?_
  · intro args s m h hn
    obtain ⟨meth, c, h1, h2, h3, h4, h5, h6, -, -⟩ := Cond.code_spec hn (atoms_spec (ws := ws) h _ (by rw [hw]; exact List.mem_cons_self))
    exact ⟨meth, c, h1, h2, h3, h4, h5, h6⟩
  · intro p e s m args below meth c s₁ B hml hP _
    have hh0 : s₁.heap = s.heap := by rw [B.state]; rfl
    obtain ⟨t, a1, o, b1, b2, b3⟩ := body p e s m args below meth c s₁ B hml hP s₁ hh0 (Stand.of_body B)
    exact ⟨t, o, a1, b1, b2, ⟨b3.1, b3.2⟩⟩
section Entry
variable {l : Launch} {y : MethodName} {cc : ByteArray} {nL fr lo mc ms : Nat} {rt : Option FieldType} {G : Env0} {h h1 : MHp} {vs : List Value} {v : Option Value}
/-- a contract out of a walk of the body -/
theorem MG_of {own : String} (hpl : plainFor y = true) (ho : y.cls = own) (hlen : (lg_sl vs).length ≤ nL)
    (body : ∀ {p : Program} {e : Env} {s : State} {m : MethodId} {args : Array Value} {below : List Frame} {meth : Method} {c : Code} {Q : State → Prop} {ls : Array Slot}, Q = MQ below (QG G v h1) args s mc ms (fun q => gB G ≤ q) → Cx p s m meth c args own nL cc (gD G) (gC G) → Ex G s s.heap → (y.name = "<init>" → meth.name = "<init>") → mHp (gD G) (gC G) (gB G) h s.heap → va_S (fun q => gB G ≤ q) s.heap s.heap [] → lv_has ls nL (lv_args 0 vs) → meth.sig.returnType = rt →
      W p l e ({ frames := fr, cells := mc, slots := ms, locals := lo }) s m args below meth c s.heap [] 0 0 Q (F0 m 0 ls [])) : MG l y cc nL rt fr lo mc ms G h vs v h1 := by
  refine Met_ofWF (cc := cc) (maxL := nL) (ret := rt) hpl rfl ?_
  intro p e s m args below meth c s₁ B hml hv
  obtain ⟨rfl, ht, hK, hm, hE⟩ := hv
  have hown : s.vm.findClass own = some m.cls := by rw [← ho]; exact findClass_of_methodNamed B.named
  rw [lg_entry_eq]
  exact body rfl ⟨B.exec, B.bytes, hml, hown, ht _, hK, B.notSynchronized⟩ hE (fun q => by rw [(name_of_methodNamed B.named B.method).1]; exact q) hm va_S.rf (lv_entry vs hlen) B.returns
end Entry
section Callr
variable {p : Program} {l : Launch} {e : Env} {R : Room} {s : State} {m : MethodId} {args : Array Value} {below : List Frame} {meth : Method} {c : Code} {H : Heap} {locs : List Loc} {cells slots : Nat} {Q : State → Prop}
variable {cc : ByteArray} {pc nL : Nat} {ls : Array Slot} {rest : List Value} {own : String} {G : Env0} {h h1 : MHp} {st0 : List Value}
theorem va_callG {a : Array Value} {H0 : Heap} {mc ms : Nat} {v : Option Value} (hr : va_Run p l e R s m args below meth c H locs cells slots mc ms (F0 m pc ls st0) rest (QG G v h1 a) (fun q => gB G ≤ q)) (hS : va_S (fun q => gB G ≤ q) H0 H locs)
    (kk : ∀ (H1 : Heap) (locs1 : List Loc), mHp (gD G) (gC G) (gB G) h1 H1 → va_S (fun q => gB G ≤ q) H0 H1 locs1 → W p l e R s m args below meth c H1 locs1 (cells + mc) (slots + ms) Q (F0 m (pc + 3) ls (v.toList ++ rest))) : W p l e R s m args below meth c H locs cells slots Q (F0 m pc ls st0) := by
  intro T hT X
  obtain ⟨v', st₀, t, T', L, h0, X', hL, e1, e2, ⟨hv, hm, hz, hk⟩, st⟩ := hr T hT X
  cases hv
  rw [h0] at hz hk
  obtain ⟨t2, a1, b1⟩ := kk T'.heap (locs ++ L) (by rw [e1]; exact hm)
    ⟨Nat.le_trans hS.1 (by rw [e1]; exact hz), fun q h1 h2 => by rw [e1, hk q (Nat.lt_of_lt_of_le h1 hS.1) h2]; exact hS.2.1 q h1 h2, fun q hq => by
      rcases List.mem_append.mp hq with h | h
      · exact hS.2.2 q h
      · exact hL q h⟩ T' rfl X'
  exact ⟨t2, st t2 a1, b1⟩
theorem preW (C : Cx p s m meth c args own nL cc (gD G) (gC G)) (X : Ex G s s.heap) (hm : mHp (gD G) (gC G) (gB G) h H) (hS : va_S (fun q => gB G ≤ q) s.heap H locs) {As : List Value} : FrameBlind (va_Pc As (Wd G h)) ∧ ∀ U : State, U.heap = H → s.WarmedH U.vm → va_Pc As (Wd G h) As.toArray U :=
  ⟨Wd.blind, fun U hU hW => ⟨rfl, fun a' => tb_moved C.2.2.2.2.1 hW, va_K.moved hW.alike C.2.2.2.2.2.1, by rw [hU]; exact hm, Ex.go hW X (fun a h1 h2 => by rw [hU]; exact hS.2.1 a h1 h2)⟩⟩
theorem r_roomB {y : MethodName} {ccy : ByteArray} {nLy fr lo mc ms n index : Nat} {rt : Option FieldType} (C : Cx p s m meth c args own nL cc (gD G) (gC G)) (F : Mlk own index y ccy nLy rt n) (hl : Cond.methodLink own index y ∈ tbl) (hfr : fr + 1 ≤ R.frames) (hlo : 8 + (nLy + 11) + lo ≤ R.locals) : CallB R s args own index y ccy nLy rt [Cond.code y ccy nLy rt] { frames := fr, cells := mc, slots := ms, locals := lo } mc ms n := by
  obtain ⟨-, q2, q3, q4, q5, q6⟩ := F
  have hts := C.2.2.2.2.1
  refine ⟨rfl, rfl, hfr, hlo, fun w hw a' U hW => ?_, List.mem_cons_self, hts _ q2, hts _ q3, ⟨q4, q5⟩, fun sig h => ?_, hts _ hl⟩
  · have hw' : w = Cond.code y ccy nLy rt := by simpa using hw
    subst hw'
    exact tb_moved hts hW _ q2
  · rw [h] at q6
    exact (Option.some.inj q6).symm
/-- a call of a method of an object -/
theorem r_callV (C : Cx p s m meth c args own nL cc (gD G) (gC G)) (X : Ex G s s.heap) (hm : mHp (gD G) (gC G) (gB G) h H) (hS : va_S (fun q => gB G ≤ q) s.heap H locs) {y : MethodName} {ccy : ByteArray} {nLy fr lo mc ms n index kd b : Nat} {rt : Option FieldType} {v : Option Value} {As : List Value} (F : Mlk own index y ccy nLy rt n) (hi : Cond.instanceMethod y ∈ tbl) (hse : Cond.selects y.cls y y ∈ tbl)
    (hM : MG l y ccy nLy rt fr lo mc ms G h (.ref b :: As) v h1) (hkb : hK h b = kd) {q : vw_C} (hkd : (0 < kd ∧ kd < 20) ∧ vwCl[kd - 1]? = some q ∧ q.1 = y.cls) (hn : As.length = n) (hst : st0 = As.reverse ++ .ref b :: rest) (hW : (rest.map fun v => v.category).sum ≤ 8) (hfr : fr + 1 ≤ R.frames) (hlo : 8 + (nLy + 11) + lo ≤ R.locals) (hf : cells + mc ≤ R.cells ∧ slots + ms ≤ R.slots) (hsz : ls.size = nL) (hdg : decode cc pc = .ok (.invokevirtual index, 3))
    (kk : ∀ (H1 : Heap) (locs1 : List Loc), mHp (gD G) (gC G) (gB G) h1 H1 → va_S (fun q => gB G ≤ q) s.heap H1 locs1 → W p l e R s m args below meth c H1 locs1 (cells + mc) (slots + ms) Q (F0 m (pc + 3) ls (v.toList ++ rest))) : W p l e R s m args below meth c H locs cells slots Q (F0 m pc ls st0) := by
  subst hst
  obtain ⟨hkd, hq, hqc⟩ := hkd
  have hP := mP1 hm (a := b) (by omega)
  rw [mE_obj hkb hkd.2] at hP
  have hrec := va_recv C.2.2.2.2.2.1 hP (ci := kd - 1) (q0 := 0) hq rfl
  rw [hqc] at hrec
  have hpre := preW C X hm hS (As := .ref b :: As)
  have hts := C.2.2.2.2.1
  obtain ⟨hl | ⟨host, hl⟩, -⟩ := id F
  · exact va_callG (va_runV (As := As) (rest := rest) ⟨C.1, C.2.1, C.2.2.1, C.2.2.2.1, hts⟩ hM ⟨r_roomB C F hl hfr hlo, hts _ hi, hts _ hse⟩ ⟨hpre.1, hrec, hpre.2⟩ rfl hn hsz rfl (lv_room hW) hdg hf) hS kk
  · have hB : va_CN R s args own index y host ccy nLy rt [Cond.code y ccy nLy rt] { frames := fr, cells := mc, slots := ms, locals := lo } mc ms n := by
      obtain ⟨-, q2, q3, q4, q5, q6⟩ := F
      refine ⟨⟨rfl, rfl, hfr, hlo, fun w hw a' U hW => ?_, List.mem_cons_self⟩, hts _ q2, hts _ q3, ⟨q4, q5⟩, fun sig h => ?_, hts _ hl⟩
      · have hw' : w = Cond.code y ccy nLy rt := by simpa using hw
        subst hw'
        exact tb_moved hts hW _ q2
      · rw [h] at q6
        exact (Option.some.inj q6).symm
    exact va_callG (va_runVN (As := As) (rest := rest) ⟨C.1, C.2.1, C.2.2.1, C.2.2.2.1, hts⟩ hM ⟨hB, hts _ hi, hts _ hse⟩ ⟨hpre.1, hrec, hpre.2⟩ rfl hn hsz rfl (lv_room hW) hdg hf) hS kk
/-- a call of a static method -/
theorem r_callS (C : Cx p s m meth c args own nL cc (gD G) (gC G)) (X : Ex G s s.heap) (hm : mHp (gD G) (gC G) (gB G) h H) (hS : va_S (fun q => gB G ≤ q) s.heap H locs) {y : MethodName} {ccy : ByteArray} {nLy fr lo mc ms n index : Nat} {rt : Option FieldType} {v : Option Value} {As : List Value} (F : Mlk own index y ccy nLy rt n) (hi : Cond.static y ∈ tbl)
    (hM : MG l y ccy nLy rt fr lo mc ms G h As v h1) (hn : As.length = n) (hst : st0 = As.reverse ++ rest) (hW : (rest.map fun v => v.category).sum ≤ 8) (hfr : fr + 1 ≤ R.frames) (hlo : 8 + (nLy + 11) + lo ≤ R.locals) (hf : cells + mc ≤ R.cells ∧ slots + ms ≤ R.slots) (hsz : ls.size = nL) (hdg : decode cc pc = .ok (.invokestatic index, 3))
    (kk : ∀ (H1 : Heap) (locs1 : List Loc), mHp (gD G) (gC G) (gB G) h1 H1 → va_S (fun q => gB G ≤ q) s.heap H1 locs1 → W p l e R s m args below meth c H1 locs1 (cells + mc) (slots + ms) Q (F0 m (pc + 3) ls (v.toList ++ rest))) : W p l e R s m args below meth c H locs cells slots Q (F0 m pc ls st0) := by
  subst hst
  have hpre := preW C X hm hS (As := As)
  have hts := C.2.2.2.2.1
  obtain ⟨hl | ⟨host, hl⟩, -⟩ := id F
  · exact va_callG (va_runS (As := As) (rest := rest) ⟨C.1, C.2.1, C.2.2.1, C.2.2.2.1, hts⟩ hM ⟨r_roomB C F hl hfr hlo, hts _ hi⟩ hpre rfl hn hsz rfl (lv_room hW) hdg hf) hS kk
  · have hB : va_CN R s args own index y host ccy nLy rt [Cond.code y ccy nLy rt] { frames := fr, cells := mc, slots := ms, locals := lo } mc ms n := by
      obtain ⟨-, q2, q3, q4, q5, q6⟩ := F
      refine ⟨⟨rfl, rfl, hfr, hlo, fun w hw a' U hW => ?_, List.mem_cons_self⟩, hts _ q2, hts _ q3, ⟨q4, q5⟩, fun sig h => ?_, hts _ hl⟩
      · have hw' : w = Cond.code y ccy nLy rt := by simpa using hw
        subst hw'
        exact tb_moved hts hW _ q2
      · rw [h] at q6
        exact (Option.some.inj q6).symm
    exact va_callG (va_runSN (As := As) (rest := rest) ⟨C.1, C.2.1, C.2.2.1, C.2.2.2.1, hts⟩ hM ⟨hB, hts _ hi, trivial⟩ hpre rfl hn hsz rfl (lv_room hW) hdg hf) hS kk
/-- a call of a constructor -/
theorem r_callC (C : Cx p s m meth c args own nL cc (gD G) (gC G)) (X : Ex G s s.heap) (hm : mHp (gD G) (gC G) (gB G) h H) (hS : va_S (fun q => gB G ≤ q) s.heap H locs) {y : MethodName} {ccy : ByteArray} {nLy fr lo mc ms n index b : Nat} {v : Option Value} {As : List Value} (F : Mlk own index y ccy nLy none n) (hi : Cond.instanceMethod y ∈ tbl) (hy1 : y.name = "<init>")
    (hM : MG l y ccy nLy none fr lo mc ms G h (.ref b :: As) v h1) (hn : As.length = n) (hst : st0 = As.reverse ++ .ref b :: rest) (hW : (rest.map fun v => v.category).sum ≤ 8) (hfr : fr + 1 ≤ R.frames) (hlo : 8 + (nLy + 11) + lo ≤ R.locals) (hf : cells + mc ≤ R.cells ∧ slots + ms ≤ R.slots) (hsz : ls.size = nL) (hdg : decode cc pc = .ok (.invokespecial index, 3))
    (kk : ∀ (H1 : Heap) (locs1 : List Loc), mHp (gD G) (gC G) (gB G) h1 H1 → va_S (fun q => gB G ≤ q) s.heap H1 locs1 → W p l e R s m args below meth c H1 locs1 (cells + mc) (slots + ms) Q (F0 m (pc + 3) ls (v.toList ++ rest))) : W p l e R s m args below meth c H locs cells slots Q (F0 m pc ls st0) := by
  subst hst
  have hpre := preW C X hm hS (As := .ref b :: As)
  have hts := C.2.2.2.2.1
  obtain ⟨hl | ⟨host, hl⟩, -⟩ := id F
  · exact va_callG (va_runI (As := As) (rest := rest) ⟨C.1, C.2.1, C.2.2.1, C.2.2.2.1, hts⟩ hM ⟨r_roomB C F hl hfr hlo, hy1, hts _ hi⟩ hpre rfl hn hsz rfl (lv_room hW) hdg hf) hS kk
  · have hB : va_CN R s args own index y host ccy nLy none [Cond.code y ccy nLy none] { frames := fr, cells := mc, slots := ms, locals := lo } mc ms n := by
      obtain ⟨-, q2, q3, q4, q5, q6⟩ := F
      refine ⟨⟨rfl, rfl, hfr, hlo, fun w hw a' U hW => ?_, List.mem_cons_self⟩, hts _ q2, hts _ q3, ⟨q4, q5⟩, fun sig h => ?_, hts _ hl⟩
      · have hw' : w = Cond.code y ccy nLy none := by simpa using hw
        subst hw'
        exact tb_moved hts hW _ q2
      · rw [h] at q6
        exact (Option.some.inj q6).symm
    exact va_callG (va_runIN (As := As) (rest := rest) ⟨C.1, C.2.1, C.2.2.1, C.2.2.2.1, hts⟩ hM ⟨hB, hy1, hts _ hi⟩ hpre rfl hn hsz rfl (lv_room hW) hdg hf) hS kk
end Callr

section Ends
variable {p : Program} {l : Launch} {e : Env} {R : Room} {s : State} {m : MethodId} {args : Array Value} {below : List Frame} {meth : Method} {c : Code} {H : Heap} {locs : List Loc} {mc ms : Nat} {Q : State → Prop}
variable {cc : ByteArray} {pc nL : Nat} {ls : Array Slot} {own : String} {G : Env0} {h1 : MHp} {v : Option Value}
theorem qg_of (hm : mHp (gD G) (gC G) (gB G) h1 H) (hS : va_S (fun q => gB G ≤ q) s.heap H locs) (t : State) (ht : t.heap = H) : QG G v h1 args s (.returned v) t := ⟨rfl, by rw [ht]; exact hm, hS.F ht⟩
theorem r_iret (hQ : Q = MQ below (QG G v h1) args s mc ms (fun q => gB G ≤ q)) (C : Cx p s m meth c args own nL cc (gD G) (gC G)) (hr : meth.sig.returnType = some .int) (hm : mHp (gD G) (gC G) (gB G) h1 H) (hS : va_S (fun q => gB G ≤ q) s.heap H locs) {r : Int32} (hv : v = some (.int r)) (hdg : decode cc pc = .ok (.ireturn, 1)) : W p l e R s m args below meth c H locs mc ms Q (F0 m pc ls [.int r]) := by
  subst hQ; subst hv
  exact W.iret C.1 C.2.1 hr (fun t ht _ => qg_of hm hS t ht) hS.2.2 hdg C.2.2.2.2.2.2
theorem r_bret (hQ : Q = MQ below (QG G v h1) args s mc ms (fun q => gB G ≤ q)) (C : Cx p s m meth c args own nL cc (gD G) (gC G)) (hr : meth.sig.returnType = some .boolean) (hm : mHp (gD G) (gC G) (gB G) h1 H) (hS : va_S (fun q => gB G ≤ q) s.heap H locs) {r : Int32} (h01 : r = 0 ∨ r = 1) (hv : v = some (.int r)) (hdg : decode cc pc = .ok (.ireturn, 1)) : W p l e R s m args below meth c H locs mc ms Q (F0 m pc ls [.int r]) := by
  subst hQ; subst hv
  exact W.zret C.1 C.2.1 hr (by rcases h01 with rfl | rfl <;> rfl) (fun t ht _ => qg_of hm hS t ht) hS.2.2 hdg C.2.2.2.2.2.2
theorem r_cret (hQ : Q = MQ below (QG G v h1) args s mc ms (fun q => gB G ≤ q)) (C : Cx p s m meth c args own nL cc (gD G) (gC G)) {ty : FieldType} (hr : meth.sig.returnType = some ty) (hm : mHp (gD G) (gC G) (gB G) h1 H) (hS : va_S (fun q => gB G ≤ q) s.heap H locs) {r : Int32} (hn : narrow ty (.int r) = .int r) (hv : v = some (.int r)) (hdg : decode cc pc = .ok (.ireturn, 1)) : W p l e R s m args below meth c H locs mc ms Q (F0 m pc ls [.int r]) := by
  subst hQ; subst hv
  exact W.zret C.1 C.2.1 hr hn (fun t ht _ => qg_of hm hS t ht) hS.2.2 hdg C.2.2.2.2.2.2
theorem r_lret (hQ : Q = MQ below (QG G v h1) args s mc ms (fun q => gB G ≤ q)) (C : Cx p s m meth c args own nL cc (gD G) (gC G)) (hr : meth.sig.returnType = some .long) (hm : mHp (gD G) (gC G) (gB G) h1 H) (hS : va_S (fun q => gB G ≤ q) s.heap H locs) {r : Int64} (hv : v = some (.long r)) (hdg : decode cc pc = .ok (.lreturn, 1)) : W p l e R s m args below meth c H locs mc ms Q (F0 m pc ls [.long r]) := by
  subst hQ; subst hv
  exact W.lret C.1 C.2.1 hr (fun t ht _ => qg_of hm hS t ht) hS.2.2 hdg C.2.2.2.2.2.2
theorem r_vret (hQ : Q = MQ below (QG G v h1) args s mc ms (fun q => gB G ≤ q)) (C : Cx p s m meth c args own nL cc (gD G) (gC G)) (hr : meth.sig.returnType = none) (hm : mHp (gD G) (gC G) (gB G) h1 H) (hS : va_S (fun q => gB G ≤ q) s.heap H locs) (hv : v = none) (hdg : decode cc pc = .ok (.return_, 1)) : W p l e R s m args below meth c H locs mc ms Q (F0 m pc ls []) := by
  subst hQ; subst hv
  exact W.vret C.1 C.2.1 hr (fun t ht _ => qg_of hm hS t ht) hS.2.2 hdg C.2.2.2.2.2.2
theorem r_aret (hQ : Q = MQ below (QG G v h1) args s mc ms (fun q => gB G ≤ q)) (C : Cx p s m meth c args own nL cc (gD G) (gC G)) {rt : FieldType} (hr : meth.sig.returnType = some rt) (hrt : (∃ n, rt = .object n) ∨ ∃ t, rt = .array t) (hm : mHp (gD G) (gC G) (gB G) h1 H) (hS : va_S (fun q => gB G ≤ q) s.heap H locs) {r : Option Nat} (hv : v = some (va_rf r)) (hdg : decode cc pc = .ok (.areturn, 1)) : W p l e R s m args below meth c H locs mc ms Q (F0 m pc ls [va_rf r]) := by
  subst hQ; subst hv
  exact W.aret C.1 C.2.1 hr hrt (by cases r with | none => exact Or.inl rfl | some a => exact Or.inr ⟨a, rfl⟩) (fun t ht _ => qg_of hm hS t ht) hS.2.2 hdg C.2.2.2.2.2.2
end Ends
section Lcl
variable {p : Program} {l : Launch} {e : Env} {R : Room} {s : State} {m : MethodId} {args : Array Value} {below : List Frame} {meth : Method} {c : Code} {H : Heap} {locs : List Loc} {cells slots : Nat} {Q : State → Prop}
variable {cc : ByteArray} {pc : Nat} {ls : Array Slot} {rest : List Value}
theorem r_aload_n (hexec : p.tables.exec = Jvm.exec) (hb : c.code = cc) {k : Fin 4} {i : Nat} {o : Option Nat} (hdg : decode cc pc = .ok (.aload_n k, 1)) (hi : (k : Nat) = i) (hl : ls[i]? = some (.val (va_rf o)))
    (kk : W p l e R s m args below meth c H locs cells slots Q (F0 m (pc + 1) ls (va_rf o :: rest))) : W p l e R s m args below meth c H locs cells slots Q (F0 m pc ls rest) := by
  cases o with
  | none => exact lv_aload_nN hexec hb hdg hi hl kk
  | some a => exact lv_aload_n hexec hb hdg hi hl kk
theorem r_aload (hexec : p.tables.exec = Jvm.exec) (hb : c.code = cc) {i : Nat} {o : Option Nat} (hdg : decode cc pc = .ok (.aload i, 2)) (hl : ls[i]? = some (.val (va_rf o)))
    (kk : W p l e R s m args below meth c H locs cells slots Q (F0 m (pc + 2) ls (va_rf o :: rest))) : W p l e R s m args below meth c H locs cells slots Q (F0 m pc ls rest) := by
  cases o with
  | none => exact lv_aloadN hexec hb hdg hl kk
  | some a => exact lv_aload hexec hb hdg hl kk
theorem r_astore_n (hexec : p.tables.exec = Jvm.exec) (hb : c.code = cc) {k : Fin 4} {i nL : Nat} {o : Option Nat} {lv lv' : List (Nat × Value)} (hdg : decode cc pc = .ok (.astore_n k, 1)) (hi : (k : Nat) = i) (h : lv_has ls nL lv) (hn : i < nL) (hl : (i, va_rf o) :: lv.filter (fun q => !(q.1 == i) && !(q.1 + 1 == i && q.2.category == 2)) = lv')
    (kk : ∀ ls' : Array Slot, lv_has ls' nL lv' → W p l e R s m args below meth c H locs cells slots Q (F0 m (pc + 1) ls' rest)) : W p l e R s m args below meth c H locs cells slots Q (F0 m pc ls (va_rf o :: rest)) := by
  cases o with
  | none => exact lv_astore_nN hexec hb hdg hi h hn hl kk
  | some a => exact lv_astore_n hexec hb hdg hi h hn hl kk
theorem r_astore (hexec : p.tables.exec = Jvm.exec) (hb : c.code = cc) {i nL : Nat} {o : Option Nat} {lv lv' : List (Nat × Value)} (hdg : decode cc pc = .ok (.astore i, 2)) (h : lv_has ls nL lv) (hn : i < nL) (hl : (i, va_rf o) :: lv.filter (fun q => !(q.1 == i) && !(q.1 + 1 == i && q.2.category == 2)) = lv')
    (kk : ∀ ls' : Array Slot, lv_has ls' nL lv' → W p l e R s m args below meth c H locs cells slots Q (F0 m (pc + 2) ls' rest)) : W p l e R s m args below meth c H locs cells slots Q (F0 m pc ls (va_rf o :: rest)) := by
  cases o with
  | none => exact lv_astoreN hexec hb hdg h hn hl kk
  | some a => exact lv_astore hexec hb hdg h hn hl kk
theorem r_ifnull (hexec : p.tables.exec = Jvm.exec) (hb : c.code = cc) {o : Option Nat} {off : Int} {tgt : Nat} (hdg : decode cc pc = .ok (.ifnull off, 3)) (ht : (pc : Int) + off = (tgt : Int))
    (kt : o = none → W p l e R s m args below meth c H locs cells slots Q (F0 m tgt ls rest)) (kf : ¬ o = none → W p l e R s m args below meth c H locs cells slots Q (F0 m (pc + 3) ls rest)) : W p l e R s m args below meth c H locs cells slots Q (F0 m pc ls (va_rf o :: rest)) := by
  cases o with
  | none => exact lv_ifnullN hexec hb hdg ht (kt rfl)
  | some a => exact lv_ifnull hexec hb hdg (kf (fun q => by cases q))
theorem r_ifnonnull (hexec : p.tables.exec = Jvm.exec) (hb : c.code = cc) {o : Option Nat} {off : Int} {tgt : Nat} (hdg : decode cc pc = .ok (.ifnonnull off, 3)) (ht : (pc : Int) + off = (tgt : Int))
    (kt : ¬ o = none → W p l e R s m args below meth c H locs cells slots Q (F0 m tgt ls rest)) (kf : o = none → W p l e R s m args below meth c H locs cells slots Q (F0 m (pc + 3) ls rest)) : W p l e R s m args below meth c H locs cells slots Q (F0 m pc ls (va_rf o :: rest)) := by
  cases o with
  | none => exact lv_ifnonnullN hexec hb hdg (kf rfl)
  | some a => exact lv_ifnonnull hexec hb hdg ht (kt (fun q => by cases q))
end Lcl

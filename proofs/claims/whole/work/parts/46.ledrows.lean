/-! the class's led, which throws; the law's led, which catches it -/
abbrev nsE : String := "java/util/NoSuchElementException"
abbrev nsN : List String := ["java/lang/RuntimeException", "java/lang/Exception"]
def nsW : List Cond := vx_at0 "CountOffice" 404 nsE nsN
theorem nsW_ot : (nsW.all fun w => vx_ot w) = true := by decide +kernel
theorem nsW_in : (nsW.all fun w => decide (w ∈ lw_tbl) && gd w) = true := by decide +kernel
/-- the heap of numbers after an exception that isn't told of -/
def nX (h : MHp) : MHp := mkH (hK h) (hN h) (hI h) (hL h) (hR h) (hAI h) (hAL h) (hAR h) (hS h + 1) (hU h + 6)
theorem nX_fs (h : MHp) (a : Nat) : ∀ (ts : List Nat) (j : Nat), mFs ts j (nX h) a = mFs ts j h a
  | [], _ => rfl
  | t :: ts, j => by
    show mV t (nX h) a j :: mFs ts (j + 1) (nX h) a = mV t h a j :: mFs ts (j + 1) h a
    rw [nX_fs h a ts (j + 1)]
    congr 1
theorem nX_ar (h : MHp) (a k : Nat) : mAr (nX h) a k = mAr h a k := by
  unfold mAr
  split <;> rfl
theorem nX_e (cs : Nat → ClassId) (h : MHp) (a : Nat) : mE cs (nX h) a = mE cs h a := by
  have hk : hK (nX h) a = hK h a := rfl
  unfold mE
  rw [hk, nX_fs, nX_ar]
theorem nX_at {D : va_G} {cs : Nat → ClassId} {b0 : Nat} {h : MHp} {H H1 : Heap} (hm : mHp D cs b0 h H) (hz : H1.size = H.size + 1) (hq : ∀ q : Nat, q < H.size → H1[q]? = H[q]?) : mHp D cs b0 (nX h) H1 := by
  refine ⟨?_, ?_, fun a ha => ?_⟩
  · rw [hz, hm.1]; rfl
  · rw [hz]; exact Nat.le_succ_of_le hm.2.1
  · have h1 := hm.2.2 a ha
    refine ⟨h1.1, ?_⟩
    rw [nX_e]
    exact h1.2.kept (hq a h1.2.lt)
section Thr0
variable {p : Program} {l : Launch} {e : Env} {R : Room} {s : State} {m : MethodId} {args : Array Value} {below : List Frame} {meth : Method} {c : Code} {H : Heap} {locs : List Loc} {cells slots : Nat} {Q : State → Prop}
variable {mc ms : Nat} {free : Addr → Prop} {ls : Array Slot} {st0 rest : List Value}
variable {Qc : Array Value → State → Outcome → State → Prop} {XC : String → Addr → State → State → Prop}
/-- 'throw new E()': new; dup; invokespecial; athrow -/
theorem ux_throw0 {cc : ByteArray} {pc : Nat} (hexec : p.tables.exec = Jvm.exec) (hb : c.code = cc) (hl : l.stackTraces = false) {own cls : String} {names : List String} {ik ic mc ms : Nat} {A : Nat → Prop}
    (hown : s.vm.findClass own = some m.cls) (hcls : Bundle.fit cls = true) (hnames : ∀ n ∈ names, Bundle.fit n = true)
    (hk : (Cond.classLink own ik cls).before args s = true) (hini : (Cond.initialized cls).before args s = true) (hat : ∀ w ∈ vx_at0 own ic cls names, w.before args s = true)
    (hgood : ∀ w ∈ Cond.classLink own ik cls :: Cond.initialized cls :: vx_at0 own ic cls names, vx_ot w = true)
    (hU : vx_Zq Bundle.tN "UNASSIGNED_STACK" Bundle.steD A s s.heap) (hN : vx_Zq Bundle.tN "SUPPRESSED_SENTINEL" Bundle.listD A s s.heap) (hS : va_S A s.heap H locs) (hsize : ls.size = c.maxLocals)
    (d0 : decode cc pc = .ok (.new ik, 3)) (d3 : decode cc (pc + 3) = .ok (.dup, 1)) (d4 : decode cc (pc + 4) = .ok (.invokespecial ic, 3)) (d7 : decode cc (pc + 7) = .ok (.athrow, 1))
    (hout : ∀ x ∈ c.exceptionTable.toList, covers x (pc + 7) = false)
    (hRframes : names.length + 3 < R.frames) (hRlocals : (rest.map fun v => v.category).sum + (13 * (names.length + 1) + 42) ≤ R.locals) (hRcells : cells + 1 ≤ R.cells) (hRslots : slots + 6 ≤ R.slots) (hlocks : meth.locks = false)
    (hx : ∀ t : State, s.vm.Alike t.vm → t.heap.size = H.size + 1 → (∀ q : Nat, q < H.size → t.heap[q]? = H[q]?) → XC cls H.size s t)
    (hf : ∀ z ∈ locs, free z.base) (hc : cells + 1 ≤ mc) (hs : slots + 6 ≤ ms) :
    W p l e R s m args below meth c H locs cells slots (ux_MQ below Qc XC args s mc ms free) (F0 m pc ls rest) := by
  intro T hT X
  have htr : e.platform.stackTraces = false := (show e.platform.stackTraces = l.stackTraces by rw [X.admits.platform]).trans hl
  have Y := vx_rebase X (R' := { frames := R.frames, locals := R.locals, cells := 1, slots := 6 }) (Nat.le_refl _) (Nat.le_refl _) hRcells hRslots
  obtain ⟨s', hA⟩ : ∃ z, z = (T.setVm s.vm).setFrames (.invoking m args :: below) := ⟨_, rfl⟩
  rw [← hA] at Y
  have hvm : s'.vm = s.vm := by rw [hA]; rfl
  have hhp : s'.heap = H := by rw [hA]; exact hT
  have hW0 : s.WarmedH s'.vm := by rw [hvm]; exact State.WarmedH.refl s
  have hat' : ∀ w ∈ vx_at0 own ic cls names, w.before args s' = true := fun w hw => vx_ot_at hW0 hvm.symm (hgood w (List.mem_cons_of_mem _ (List.mem_cons_of_mem _ hw))) (hat w hw)
  have hk' : (Cond.classLink own ik cls).before args s' = true := vx_ot_at hW0 hvm.symm (hgood _ List.mem_cons_self) hk
  have hini' : (Cond.initialized cls).before args s' = true := vx_ot_at hW0 hvm.symm (hgood _ (List.mem_cons_of_mem _ List.mem_cons_self)) hini
  have hU' : vx_Zq Bundle.tN "UNASSIGNED_STACK" Bundle.steD A s' s'.heap := by rw [hhp]; exact vx_Zq.moved hW0.alike (hU.kept hS.2.1)
  have hN' : vx_Zq Bundle.tN "SUPPRESSED_SENTINEL" Bundle.listD A s' s'.heap := by rw [hhp]; exact vx_Zq.moved hW0.alike (hN.kept hS.2.1)
  have h : ∀ w ∈ Bundle.ownAtoms0 own ic cls names, w.before args s' = true := vx_own hat' (vx_isRefq hU'.1) (vx_isRefq hN'.1) hU'.2.word hN'.2.word
  have hown' : s'.vm.findClass own = some m.cls := by rw [hvm]; exact hown
  have hins : (Cond.instantiable cls 6).before args s' = true := h _ (by simp [Bundle.ownAtoms0])
  obtain ⟨vm₁, cX, kX, hfX, hkX, -, -, X₁, st1⟩ := Y.newCold hexec (own := own) (C := cls) (index := ik) (n := 6) hown' hk' hins hini'
    (g := F0 m pc ls rest) rfl (by rw [hb]; exact d0) (Nat.le_refl _) (Nat.le_refl _)
  generalize hT1 : (T.setVm vm₁).pushCell { cls := cX, slots := kX.instanceTypes.map defaultValue, vm := .none } = T1 at X₁ st1
  have hcat : (Value.ref T.heap.size).category = 1 := rfl
  have hcellA : T1.heap[T.heap.size]? = some (freshCell cX kX) := by rw [← hT1]; exact State.heap_pushCell_size _ _
  have d3' : decode c.code (pc + 3) = .ok (.dup, 1) := by rw [hb]; exact d3
  obtain ⟨U, hsteps, hrun, hend, hW, hsame, ce, hce, hO⟩ := X₁.ctorThrow0 hexec htr (own := own) (cls := cls) (names := names) (ic := ic) hown' hcls hnames h (fun x hx => nomatch hx) hfX hkX hcellA (by rw [hhp, hT]; exact Nat.le_refl _)
    (g := { method := m, pc := pc + 4, locals := ls, stack := .ref T.heap.size :: .ref T.heap.size :: rest, locked := none }) rfl hsize rfl rfl (rest := rest) rfl
    (by rw [hb]; exact d4) (by rw [hb]; exact d7) hout hRframes (by simp only [List.map_cons, List.sum_cons, hcat]; omega) hlocks
  obtain ⟨f1, f2⟩ := vx_frame hsame
  rw [hhp] at f1 f2
  have hWs : s.WarmedH U.vm := State.WarmedH.trans hW0 hW
  have hcl : s.vm.findClass cls = some ce.cls := by
    have h9 := hO.cls
    rw [hvm] at h9
    exact h9
  have hall : s.sameButNew ({ U with vm := s.vm } : State) locs mc ms := by
    subst hA
    obtain ⟨e1, e2⟩ := hsame
    rw [State.setFrames_setFrames] at e1
    have h2 : (T.setVm s.vm).sameButNew ({ U with vm := s.vm } : State) [] (0 + 1) (0 + 6) := ⟨e1, e2⟩
    have h3 := X.same.trans h2
    rw [List.append_nil] at h3
    exact h3.mono hc hs
  have hsz1 : U.heap.size = H.size + 1 := by
    have h1 : U.heap.size ≤ s'.heap.size + (0 + 1) := hsame.2.2.1
    rw [hhp] at h1
    have h2 : T.heap.size < U.heap.size := (Array.getElem?_eq_some_iff.mp hce).1
    rw [hT] at h2
    omega
  refine ⟨U, ?_, .threw T.heap.size, hrun, hend, Or.inr ⟨T.heap.size, rfl, cls, ce, locs, by rw [hT]; exact hx U hWs.alike hsz1 (fun q hq => f2 q hq (fun z hz => nomatch hz)), hce, hO.vm, hcl, hWs, hall, hf⟩⟩
  refine st1 _ ?_
  show Steps p.tables e below (T1.setTop { method := m, pc := pc + 3, locals := ls, stack := .ref T.heap.size :: rest, locked := none }) _
  jvm_step X₁.here [X₁.here.top, hexec, d3', Value.category]
  exact hsteps
end Thr0
def XN {τ : Type} (G : Env0) (res : (τ ⊕ Nat) × MHp) : String → Addr → State → State → Prop := fun E q st t => E = nsE ∧ res.1 = .inr q ∧ mHp (gD G) (gC G) (gB G) res.2 t.heap ∧ va_F (fun q => gB G ≤ q) st t

def UN {τ : Type} (l : Launch) (y : MethodName) (cc : ByteArray) (nL : Nat) (rt : Option FieldType) (fr lo mc ms : Nat) (G : Env0) (h : MHp) (vs : List Value) (f : τ → Option Value) (res : (τ ⊕ Nat) × MHp) : Prop :=
  ux_Met l y [Cond.code y cc nL rt] ({ frames := fr, cells := mc, slots := ms, locals := lo }) (va_Pc vs (Wd G h)) (QU G f res) (XN G res) mc ms (fun q => gB G ≤ q)

section NEn
variable {τ : Type} {l : Launch} {y : MethodName} {cc : ByteArray} {nL fr lo mc ms : Nat} {rt : Option FieldType} {G : Env0} {h h1 : MHp} {vs : List Value} {f : τ → Option Value} {res : (τ ⊕ Nat) × MHp} {v : Option Value}
theorem UN_of {own : String} (hpl : plainName y.cls = true) (ho : y.cls = own) (hlen : (lg_sl vs).length ≤ nL)
    (body : ∀ {p : Program} {e : Env} {s : State} {m : MethodId} {args : Array Value} {below : List Frame} {meth : Method} {c : Code} {Q : State → Prop} {ls : Array Slot}, Q = ux_MQ below (QU G f res) (XN G res) args s mc ms (fun q => gB G ≤ q) → Cx p s m meth c args own nL cc (gD G) (gC G) → Ex G s s.heap → (∀ x ∈ c.exceptionTable.toList, False) → mHp (gD G) (gC G) (gB G) h s.heap → va_S (fun q => gB G ≤ q) s.heap s.heap [] → lv_has ls nL (lv_args 0 vs) → meth.sig.returnType = rt →
      W p l e ({ frames := fr, cells := mc, slots := ms, locals := lo }) s m args below meth c s.heap [] 0 0 Q (F0 m 0 ls [])) : UN l y cc nL rt fr lo mc ms G h vs f res := by
  refine ux_ofW (cc := cc) (maxL := nL) (ret := rt) hpl rfl ?_
  intro p e s m args below meth c s₁ B hml hx hv
  obtain ⟨rfl, ht, hK, hm, hE⟩ := hv
  have hown : s.vm.findClass own = some m.cls := by rw [← ho]; exact findClass_of_methodNamed B.named
  rw [lg_entry_eq]
  exact body rfl ⟨B.exec, B.bytes, hml, hown, ht _, hK, B.notSynchronized⟩ hE hx hm va_S.rf (lv_entry vs hlen) B.returns

end NEn
section NRw
variable {p : Program} {l : Launch} {e : Env} {R : Room} {s : State} {m : MethodId} {args : Array Value} {below : List Frame} {meth : Method} {c : Code} {H : Heap} {locs : List Loc} {cells slots mc ms : Nat} {Q : State → Prop}
variable {cc : ByteArray} {pc nL : Nat} {ls : Array Slot} {rest : List Value} {own : String} {G : Env0} {h : MHp} {ρ : Type} {res : ρ}
theorem r_nret {τ : Type} {f : τ → Option Value} {res : (τ ⊕ Nat) × MHp} (hQ : Q = ux_MQ below (QU G f res) (XN G res) args s mc ms (fun q => gB G ≤ q)) {g : JFrame} (kk : W p l e R s m args below meth c H locs mc ms (MQ below (QU G f res) args s mc ms (fun q => gB G ≤ q)) g) : W p l e R s m args below meth c H locs mc ms Q g := by
  subst hQ
  exact ux_ret kk

theorem r_nretI {res : (Int32 ⊕ Nat) × MHp} {r : Int32} (hQ : Q = ux_MQ below (QU G (fun v => some (.int v)) res) (XN G res) args s mc ms (fun q => gB G ≤ q)) (C : Cx p s m meth c args own nL cc (gD G) (gC G)) (hr : meth.sig.returnType = some .int) (hm : mHp (gD G) (gC G) (gB G) h H) (hS : va_S (fun q => gB G ≤ q) s.heap H locs) (hh : some (Sum.inl r, h) = some res) (hdg : decode cc pc = .ok (.ireturn, 1)) : W p l e R s m args below meth c H locs mc ms Q (F0 m pc ls [.int r]) := by
  cases hh
  exact r_nret hQ (W.iret C.1 C.2.1 hr (fun t ht _ => ⟨r, rfl, qg_of hm hS t ht⟩) hS.2.2 hdg C.2.2.2.2.2.2)

theorem ux_callN {τ : Type} {f : τ → Option Value} {r : (τ ⊕ Nat) × MHp} {a : Array Value} {H0 : Heap} {st0 : List Value} (hr : ux_Run p l e R s m args below meth c H locs cells slots mc ms (F0 m pc ls st0) rest (QU G f r a) (XN G r) (fun q => gB G ≤ q)) (hS : va_S (fun q => gB G ≤ q) H0 H locs)
    (kx : ∀ (q : Nat) (ce : Cell) (H1 : Heap) (locs1 : List Loc), r.1 = .inr q → mHp (gD G) (gC G) (gB G) r.2 H1 → va_S (fun q => gB G ≤ q) H0 H1 locs1 → H1[q]? = some ce → ce.vm = .none → s.vm.findClass nsE = some ce.cls → ux_W p l e R s m args below meth c H1 locs1 (cells + mc) (slots + ms) Q (F0 m pc ls rest) q)
    (kk : ∀ (v : τ) (H1 : Heap) (locs1 : List Loc), r.1 = .inl v → mHp (gD G) (gC G) (gB G) r.2 H1 → va_S (fun q => gB G ≤ q) H0 H1 locs1 → W p l e R s m args below meth c H1 locs1 (cells + mc) (slots + ms) Q (F0 m (pc + 3) ls ((f v).toList ++ rest))) : W p l e R s m args below meth c H locs cells slots Q (F0 m pc ls st0) := by
  intro T hT X
  have keep : ∀ {st t : State} {L : List Loc} {T' : State}, st.heap = H → T'.heap = t.heap → (∀ q ∈ L, gB G ≤ q.base) → va_F (fun q => gB G ≤ q) st t → va_S (fun q => gB G ≤ q) H0 T'.heap (locs ++ L) := by
    intro st t L T' h0 e1 hL hF
    obtain ⟨hz, hk⟩ := hF
    rw [h0] at hz hk
    exact ⟨Nat.le_trans hS.1 (by rw [e1]; exact hz), fun q h1 h2 => by rw [e1, hk q (Nat.lt_of_lt_of_le h1 hS.1) h2]; exact hS.2.1 q h1 h2, fun q hq => by
      rcases List.mem_append.mp hq with h | h
      · exact hS.2.2 q h
      · exact hL q h⟩
  rcases hr T hT X with ⟨v, st₀, t, T', L, h0, X', hL, e1, e2, ⟨v0, hv0, hv, hm, hF⟩, st⟩ | ⟨q, st₀, t, T', L, E, ce, h0, X', hL, e1, e2, ⟨rfl, hq, hm, hF⟩, hce, hcv, hcl, st⟩
  · cases hv
    obtain ⟨t2, a1, b1⟩ := kk v0 T'.heap (locs ++ L) hv0 (by rw [e1]; exact hm) (keep h0 e1 hL hF) T' rfl X'
    exact ⟨t2, st t2 a1, b1⟩
  · obtain ⟨t2, a1, b1⟩ := kx q ce T'.heap (locs ++ L) hq (by rw [e1]; exact hm) (keep h0 e1 hL hF) (by rw [e1]; exact hce) hcv hcl T' rfl X'
    exact ⟨t2, st.trans a1, b1⟩

theorem r_nV {τ : Type} (C : Cx p s m meth c args own nL cc (gD G) (gC G)) (X : Ex G s s.heap) (hm : mHp (gD G) (gC G) (gB G) h H) (hS : va_S (fun q => gB G ≤ q) s.heap H locs) {y : MethodName} {ccy : ByteArray} {nLy fr lo n index kd : Nat} {rt : Option FieldType} {o : Option Nat} {As : List Value} (F : Mlk own index y ccy nLy rt n) (hl : Cond.methodLink own index y ∈ tbl) (V : Cond.instanceMethod y ∈ tbl ∧ Cond.selects y.cls y y ∈ tbl ∧ (0 < kd ∧ kd < 20) ∧ ∃ q : vw_C, vwCl[kd - 1]? = some q ∧ q.1 = y.cls)
    {g : Nat → Option ((τ ⊕ Nat) × MHp)} {f : Nat → (τ ⊕ Nat) × MHp → Option ρ} (hh : ((rcv kd h o).bind fun b => (g b).bind (f b)) = some res) {vv : τ → Option Value} (hM : ∀ (b : Nat) (r : (τ ⊕ Nat) × MHp), g b = some r → UN l y ccy nLy rt fr lo mc ms G h (.ref b :: As) vv r) (hn : As.length = n) {st0 : List Value} (hst : st0 = As.reverse ++ va_rf o :: rest) (hW : (rest.map fun v => v.category).sum ≤ 8) (hfr : fr + 1 ≤ R.frames) (hlo : 8 + (nLy + 11) + lo ≤ R.locals) (hsz : ls.size = nL) (hf : cells + mc ≤ R.cells ∧ slots + ms ≤ R.slots) (hdg : decode cc pc = .ok (.invokevirtual index, 3))
    (kx : ∀ (q b : Nat) (h1 : MHp) (ce : Cell) (H1 : Heap) (locs1 : List Loc), g b = some (.inr q, h1) → f b (.inr q, h1) = some res → mHp (gD G) (gC G) (gB G) h1 H1 → va_S (fun q => gB G ≤ q) s.heap H1 locs1 → H1[q]? = some ce → ce.vm = .none → s.vm.findClass nsE = some ce.cls → ux_W p l e R s m args below meth c H1 locs1 (cells + mc) (slots + ms) Q (F0 m pc ls rest) q)
    (kk : ∀ (b : Nat) (v : τ) (h1 : MHp) (H1 : Heap) (locs1 : List Loc), g b = some (.inl v, h1) → f b (.inl v, h1) = some res → mHp (gD G) (gC G) (gB G) h1 H1 → va_S (fun q => gB G ≤ q) s.heap H1 locs1 → W p l e R s m args below meth c H1 locs1 (cells + mc) (slots + ms) Q (F0 m (pc + 3) ls ((vv v).toList ++ rest))) : W p l e R s m args below meth c H locs cells slots Q (F0 m pc ls st0) := by
  obtain ⟨b, hb, hh⟩ := Option.bind_eq_some_iff.mp hh
  obtain ⟨r, hg, hf2⟩ := Option.bind_eq_some_iff.mp hh
  obtain ⟨rfl, hk⟩ := rcv_some hb
  obtain ⟨v1, v2, hkd, q, hq, hqc⟩ := V
  subst hst
  have hP := mP1 hm (a := b) (by omega)
  rw [mE_obj hk hkd.2] at hP
  have hrec := va_recv C.2.2.2.2.2.1 hP (ci := kd - 1) (q0 := 0) hq rfl
  rw [hqc] at hrec
  have hpre := preW C X hm hS (As := .ref b :: As)
  have hts := C.2.2.2.2.1
  obtain ⟨r1, h1⟩ := r
  refine W.eq (g2 := F0 m pc ls (As.reverse ++ .ref b :: rest)) rfl (ux_callN (ux_runV (As := As) (rest := rest) ⟨C.1, C.2.1, C.2.2.1, C.2.2.2.1, hts⟩ (hM b _ hg) ⟨r_roomB C F hl hfr hlo, hts _ v1, hts _ v2⟩ ⟨hpre.1, hrec, hpre.2⟩ rfl hn hsz rfl (lv_room hW) hdg hf) hS ?_ ?_)
  · intro q2 ce H1 locs1 e1 a1 a2 a3 a4 a5
    cases e1
    exact kx q2 b h1 ce H1 locs1 hg hf2 a1 a2 a3 a4 a5
  · intro v H1 locs1 e1 a1 a2
    cases e1
    exact kk b v h1 H1 locs1 hg hf2 a1 a2

theorem r_nthrow {τ : Type} {f : τ → Option Value} {res : (τ ⊕ Nat) × MHp} (hQ : Q = ux_MQ below (QU G f res) (XN G res) args s mc ms (fun q => gB G ≤ q)) (C : Cx p s m meth c args "CountOffice" nL cc (gD G) (gC G)) (hst : l.stackTraces = false) (X : Ex G s s.heap) (hx0 : ∀ x ∈ c.exceptionTable.toList, False) (hm : mHp (gD G) (gC G) (gB G) h H) (hs : va_S (fun q => gB G ≤ q) s.heap H locs) (hh : some (Sum.inr (hS h), nX h) = some res) (hsz : ls.size = nL)
    (d0 : decode cc pc = .ok (.new 402, 3)) (d3 : decode cc (pc + 3) = .ok (.dup, 1)) (d4 : decode cc (pc + 4) = .ok (.invokespecial 404, 3)) (d7 : decode cc (pc + 7) = .ok (.athrow, 1))
    (hR : 6 ≤ R.frames) (hl : (rest.map fun v => v.category).sum + 81 ≤ R.locals) (hc1 : cells + 1 ≤ R.cells) (hs1 : slots + 6 ≤ R.slots) (hc2 : cells + 1 ≤ mc) (hs2 : slots + 6 ≤ ms) : W p l e R s m args below meth c H locs cells slots Q (F0 m pc ls rest) := by
  cases hh
  subst hQ
  have hts := C.2.2.2.2.1
  have hat : ∀ w ∈ vx_at0 "CountOffice" 404 nsE nsN, w.before args s = true := fun w hw => by
    have h1 := List.all_eq_true.mp nsW_in w hw
    simp only [Bool.and_eq_true, decide_eq_true_eq] at h1
    exact hts w (in_tbl h1.1 h1.2)
  have hot : ∀ w ∈ Cond.classLink "CountOffice" 402 nsE :: Cond.initialized nsE :: vx_at0 "CountOffice" 404 nsE nsN, vx_ot w = true := fun w hw => by
    rcases List.mem_cons.mp hw with rfl | hw
    · rfl
    · rcases List.mem_cons.mp hw with rfl | hw
      · rfl
      · exact List.all_eq_true.mp nsW_ot w hw
  refine ux_throw0 C.1 C.2.1 hst (own := "CountOffice") (cls := nsE) (names := nsN) (ik := 402) (ic := 404) (A := fun q => gB G ≤ q) C.2.2.2.1 (by decide) (by decide) (hts _ (in_tbl (List.mem_append_right _ (List.mem_of_getElem? (i := 1219) (by decide +kernel))) rfl)) (hts _ (in_tbl (List.mem_append_right _ (List.mem_of_getElem? (i := 30) (by decide +kernel))) rfl)) hat hot X.2.2.2.2.1 X.2.2.2.2.2.1 hs (hsz.trans C.2.2.1.symm) d0 d3 d4 d7 (fun x hx => (hx0 x hx).elim) (by show 2 + 3 < R.frames; omega) (by show _ + (13 * (2 + 1) + 42) ≤ R.locals; omega) hc1 hs1 C.2.2.2.2.2.2 (fun t _ hz hq => ⟨rfl, ?_, nX_at hm hz hq, ?_⟩) hs.2.2 hc2 hs2
  · show Sum.inr (hS h) = Sum.inr H.size
    rw [hm.1]
  · exact ⟨Nat.le_trans hs.1 (by rw [hz]; exact Nat.le_succ _), fun q h1 h2 => by rw [hq q (Nat.lt_of_lt_of_le h1 hs.1)]; exact hs.2.1 q h1 h2⟩
end NRw
section MRw
variable {p : Program} {l : Launch} {e : Env} {R : Room} {s : State} {m : MethodId} {args : Array Value} {below : List Frame} {meth : Method} {c : Code} {H : Heap} {locs : List Loc} {cells slots mc ms : Nat} {Q : State → Prop}
variable {cc : ByteArray} {pc nL : Nat} {ls : Array Slot} {rest : List Value} {own : String} {G : Env0} {h : MHp} {ρ : Type} {res : ρ}
/-- a call of an object's method that has a table of its own -/
theorem r_mV {σ : Type} (C : Cx p s m meth c args own nL cc (gD G) (gC G)) (X : Ex G s s.heap) (hm : mHp (gD G) (gC G) (gB G) h H) (hs : va_S (fun q => gB G ≤ q) s.heap H locs) {y : MethodName} {ccy : ByteArray} {nLy fr lo n index kd : Nat} {rt : Option FieldType} {hhs : List (Nat × Nat × Nat × Nat)} {o : Option Nat} {As : List Value} (F : MlkW own index y ccy nLy rt hhs n) (V : Cond.instanceMethod y ∈ tbl ∧ Cond.selects y.cls y y ∈ tbl ∧ (0 < kd ∧ kd < 20) ∧ ∃ q : vw_C, vwCl[kd - 1]? = some q ∧ q.1 = y.cls)
    {g : Nat → Option σ} {f : Nat → σ → Option ρ} (hh : ((rcv kd h o).bind fun b => (g b).bind (f b)) = some res) {vv : σ → Option Value} {hp : σ → MHp} (hM : ∀ (b : Nat) (r : σ), g b = some r → MGW l y ccy nLy rt hhs fr lo mc ms G h (.ref b :: As) (vv r) (hp r)) (hn : As.length = n) {st0 : List Value} (hst : st0 = As.reverse ++ va_rf o :: rest) (hW : (rest.map fun v => v.category).sum ≤ 8) (hfr : fr + 1 ≤ R.frames) (hlo : 8 + (nLy + 11) + lo ≤ R.locals) (hroom : cells + mc ≤ R.cells ∧ slots + ms ≤ R.slots) (hsz : ls.size = nL) (hdg : decode cc pc = .ok (.invokevirtual index, 3))
    (kk : ∀ (b : Nat) (r : σ) (H1 : Heap) (locs1 : List Loc), g b = some r → f b r = some res → mHp (gD G) (gC G) (gB G) (hp r) H1 → va_S (fun q => gB G ≤ q) s.heap H1 locs1 → W p l e R s m args below meth c H1 locs1 (cells + mc) (slots + ms) Q (F0 m (pc + 3) ls ((vv r).toList ++ rest))) : W p l e R s m args below meth c H locs cells slots Q (F0 m pc ls st0) := by
  obtain ⟨b, hb, hh⟩ := Option.bind_eq_some_iff.mp hh
  obtain ⟨r, hg, hf⟩ := Option.bind_eq_some_iff.mp hh
  obtain ⟨rfl, hk⟩ := rcv_some hb
  obtain ⟨v1, v2, hkd, q, hq, hqc⟩ := V
  subst hst
  have hP := mP1 hm (a := b) (by omega)
  rw [mE_obj hk hkd.2] at hP
  have hrec := va_recv C.2.2.2.2.2.1 hP (ci := kd - 1) (q0 := 0) hq rfl
  rw [hqc] at hrec
  have hpre := preW C X hm hs (As := .ref b :: As)
  have hts := C.2.2.2.2.1
  obtain ⟨q1, q2, q3, q4, q5, q6⟩ := F
  refine W.eq (g2 := F0 m pc ls (As.reverse ++ .ref b :: rest)) rfl (va_callG (vx_runVW (As := As) (rest := rest) (n := n) (hh := hhs) (bytes := ccy) (maxL := nLy) (ret := rt) ⟨C.1, C.2.1, C.2.2.1, C.2.2.2.1, hts⟩ (hM b r hg) ⟨⟨rfl, rfl, hfr, hlo, fun w hw a' U hW => ?_, List.mem_cons_self⟩, hts _ q2, hts _ q3, ⟨q4, q5⟩, fun sig h => ?_, hts _ q1, hts _ v1, hts _ v2⟩ ⟨hpre.1, hrec, hpre.2⟩ rfl hn hsz rfl (lv_room hW) hdg hroom) hs (fun H1 locs1 a1 a2 => kk b r H1 locs1 hg hf a1 a2))
  · have hw' : w = Cond.codeWith y ccy nLy rt hhs := by simpa using hw
    subst hw'
    exact tb_moved hts hW _ q2
  · rw [h] at q6
    exact (Option.some.inj q6).symm
theorem r_mS {σ : Type} (C : Cx p s m meth c args own nL cc (gD G) (gC G)) (X : Ex G s s.heap) (hm : mHp (gD G) (gC G) (gB G) h H) (hs : va_S (fun q => gB G ≤ q) s.heap H locs) {y : MethodName} {ccy : ByteArray} {nLy fr lo n index : Nat} {rt : Option FieldType} {hhs : List (Nat × Nat × Nat × Nat)} {As : List Value} (F : MlkW own index y ccy nLy rt hhs n) (V : Cond.static y ∈ tbl)
    {g : Option σ} {f : σ → Option ρ} (hh : g.bind f = some res) {vv : σ → Option Value} {hp : σ → MHp} (hM : ∀ (r : σ), g = some r → MGW l y ccy nLy rt hhs fr lo mc ms G h As (vv r) (hp r)) (hn : As.length = n) {st0 : List Value} (hst : st0 = As.reverse ++ rest) (hW : (rest.map fun v => v.category).sum ≤ 8) (hfr : fr + 1 ≤ R.frames) (hlo : 8 + (nLy + 11) + lo ≤ R.locals) (hroom : cells + mc ≤ R.cells ∧ slots + ms ≤ R.slots) (hsz : ls.size = nL) (hdg : decode cc pc = .ok (.invokestatic index, 3))
    (kk : ∀ (r : σ) (H1 : Heap) (locs1 : List Loc), g = some r → f r = some res → mHp (gD G) (gC G) (gB G) (hp r) H1 → va_S (fun q => gB G ≤ q) s.heap H1 locs1 → W p l e R s m args below meth c H1 locs1 (cells + mc) (slots + ms) Q (F0 m (pc + 3) ls ((vv r).toList ++ rest))) : W p l e R s m args below meth c H locs cells slots Q (F0 m pc ls st0) := by
  obtain ⟨r, hg, hf⟩ := Option.bind_eq_some_iff.mp hh
  subst hst
  have hpre := preW C X hm hs (As := As)
  have hts := C.2.2.2.2.1
  obtain ⟨q1, q2, q3, q4, q5, q6⟩ := F
  refine va_callG (vx_runSW (As := As) (rest := rest) (n := n) (hh := hhs) (bytes := ccy) (maxL := nLy) (ret := rt) ⟨C.1, C.2.1, C.2.2.1, C.2.2.2.1, hts⟩ (hM r hg) ⟨⟨rfl, rfl, hfr, hlo, fun w hw a' U hW => ?_, List.mem_cons_self⟩, hts _ q2, hts _ q3, ⟨q4, q5⟩, fun sig h => ?_, hts _ q1, hts _ V⟩ hpre rfl hn hsz rfl (lv_room hW) hdg hroom) hs (fun H1 locs1 a1 a2 => kk r H1 locs1 hg hf a1 a2)
  · have hw' : w = Cond.codeWith y ccy nLy rt hhs := by simpa using hw
    subst hw'
    exact tb_moved hts hW _ q2
  · rw [h] at q6
    exact (Option.some.inj q6).symm
end MRw

section Md
variable {p : Program} {l : Launch} {e : Env} {R : Room} {s : State} {m : MethodId} {args : Array Value} {below : List Frame} {meth : Method} {c : Code} {H : Heap} {locs : List Loc} {cells slots : Nat} {Q : State → Prop}
variable {cc : ByteArray} {pc nL : Nat} {ls : Array Slot} {rest : List Value} {own : String} {G : Env0} {h : MHp} {ρ : Type} {res : ρ}
theorem nAo_K {kd w : Nat} {h : MHp} {n : Int32} {N : Nat} (h0 : ¬ n < 0) (hN : n.toNatClampNeg = N) (hb : N * w ≤ 536870912) : nAo kd w h n = some (nA h kd N) := by
  subst hN
  unfold nAo
  rw [if_neg]
  rintro (q | q)
  · exact h0 q
  · omega
theorem r_newG (C : Cx p s m meth c args own nL cc (gD G) (gC G)) (hm : mHp (gD G) (gC G) (gB G) h H) (hS0 : va_S (fun q => gB G ≤ q) s.heap H locs) {index kd n : Nat} (F : Nlk own index kd n) (hcells : cells + 1 ≤ R.cells) (hslots : slots + n ≤ R.slots) (hdg : decode cc pc = .ok (.new index, 3)) {f : MHp → Option ρ} (hh : (some (nO h kd n)).bind f = some res)
    (kk : ∀ (h1 : MHp) (H1 : Heap), f h1 = some res → mHp (gD G) (gC G) (gB G) h1 H1 → va_S (fun q => gB G ≤ q) s.heap H1 locs → W p l e R s m args below meth c H1 locs (cells + 1) (slots + n) Q (F0 m (pc + 3) ls (va_rf (some (hS h)) :: rest))) : W p l e R s m args below meth c H locs cells slots Q (F0 m pc ls rest) :=
  r_new C hm hS0 F hcells hslots hdg (fun H1 a1 a2 => kk _ H1 hh a1 a2)
theorem r_newaG (C : Cx p s m meth c args own nL cc (gD G) (gC G)) (hm : mHp (gD G) (gC G) (gB G) h H) (hS0 : va_S (fun q => gB G ≤ q) s.heap H locs) {kd w : Nat} {atype : ArrayType} (hkd : (kd = 20 ∧ atype = .int ∧ w = 4) ∨ (kd = 21 ∧ atype = .long ∧ w = 8) ∨ (kd = 22 ∧ atype = .byte ∧ w = 1) ∨ (kd = 23 ∧ atype = .boolean ∧ w = 1)) (hw : Cond.arrayClass (newarray.typeOf atype) ∈ tbl) (hdg : decode cc pc = .ok (.newarray atype, 2)) {n : Int32} {N : Nat} (h0 : ¬ n < 0) (hN : n.toNatClampNeg = N) (hb : N * w ≤ 536870912) {f : MHp → Option ρ} (hh : (some (nA h kd N)).bind f = some res) (hcells : cells + 1 ≤ R.cells) (hslots : slots + N ≤ R.slots)
    (kk : ∀ (h1 : MHp) (H1 : Heap), f h1 = some res → mHp (gD G) (gC G) (gB G) h1 H1 → va_S (fun q => gB G ≤ q) s.heap H1 locs → W p l e R s m args below meth c H1 locs (cells + 1) (slots + N) Q (F0 m (pc + 2) ls (va_rf (some (hS h)) :: rest))) : W p l e R s m args below meth c H locs cells slots Q (F0 m pc ls (.int n :: rest)) := by
  subst hN
  exact r_newa C hm hS0 hkd hw hdg (n := n) (f := f) (res := res) (by rw [nAo_K h0 rfl hb]; exact hh) hcells hslots (fun H1 q a1 a2 => kk _ H1 q a1 a2)
theorem r_newqG (C : Cx p s m meth c args own nL cc (gD G) (gC G)) (hm : mHp (gD G) (gC G) (gB G) h H) (hS0 : va_S (fun q => gB G ≤ q) s.heap H locs) {kd index t0 : Nat} {CN : String} (h24 : 24 ≤ kd) (ht : (tysL (gC G))[t0]? = some ((gC G) kd, .object CN)) (hover : va_AO CN s) (hcl : Cond.classLink own index CN ∈ tbl) (hdg : decode cc pc = .ok (.anewarray index, 3)) {n : Int32} {N : Nat} (h0 : ¬ n < 0) (hN : n.toNatClampNeg = N) (hb : N * 4 ≤ 536870912) {f : MHp → Option ρ} (hh : (some (nA h kd N)).bind f = some res) (hcells : cells + 1 ≤ R.cells) (hslots : slots + N ≤ R.slots)
    (kk : ∀ (h1 : MHp) (H1 : Heap), f h1 = some res → mHp (gD G) (gC G) (gB G) h1 H1 → va_S (fun q => gB G ≤ q) s.heap H1 locs → W p l e R s m args below meth c H1 locs (cells + 1) (slots + N) Q (F0 m (pc + 3) ls (va_rf (some (hS h)) :: rest))) : W p l e R s m args below meth c H locs cells slots Q (F0 m pc ls (.int n :: rest)) := by
  subst hN
  exact r_newq C hm hS0 h24 ht hover hcl hdg (n := n) (f := f) (res := res) (by rw [nAo_K h0 rfl hb]; exact hh) hcells hslots (fun H1 q a1 a2 => kk _ H1 q a1 a2)
/-- a constructor is called -/
theorem r_cC {σ : Type} (C : Cx p s m meth c args own nL cc (gD G) (gC G)) (X : Ex G s s.heap) (hm : mHp (gD G) (gC G) (gB G) h H) (hS : va_S (fun q => gB G ≤ q) s.heap H locs) {y : MethodName} {ccy : ByteArray} {nLy fr lo mc ms n index a : Nat} {As : List Value} (F : Mlk own index y ccy nLy none n) (V : Cond.instanceMethod y ∈ tbl ∧ y.name = "<init>")
    {g : Option σ} {f : σ → Option ρ} (hh : g.bind f = some res) {hp : σ → MHp} (hM : ∀ (r : σ), g = some r → MG l y ccy nLy none fr lo mc ms G h (.ref a :: As) none (hp r)) (hn : As.length = n) {st0 : List Value} (hst : st0 = As.reverse ++ .ref a :: rest) (hW : (rest.map fun v => v.category).sum ≤ 8) (hfr : fr + 1 ≤ R.frames) (hlo : 8 + (nLy + 11) + lo ≤ R.locals) (hf : cells + mc ≤ R.cells ∧ slots + ms ≤ R.slots) (hsz : ls.size = nL) (hdg : decode cc pc = .ok (.invokespecial index, 3))
    (kk : ∀ (r : σ) (H1 : Heap) (locs1 : List Loc), g = some r → f r = some res → mHp (gD G) (gC G) (gB G) (hp r) H1 → va_S (fun q => gB G ≤ q) s.heap H1 locs1 → W p l e R s m args below meth c H1 locs1 (cells + mc) (slots + ms) Q (F0 m (pc + 3) ls rest)) : W p l e R s m args below meth c H locs cells slots Q (F0 m pc ls st0) := by
  obtain ⟨r, hg, hf2⟩ := Option.bind_eq_some_iff.mp hh
  exact r_callC C X hm hS F V.1 V.2 (hM r hg) hn hst hW hfr hlo hf hsz hdg (fun H1 locs1 a1 a2 => kk r H1 locs1 hg hf2 a1 a2)
end Md

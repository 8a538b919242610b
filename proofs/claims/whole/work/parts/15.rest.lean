theorem va_cat (o : Option Nat) : (va_rf o).category = 1 := by cases o <;> rfl
/-- a row of the class's own numbers is read -/
def stL (k : Nat) (i : Int32) : Option Int32 := if i < 0 ∨ 4 ≤ i.toNatClampNeg then none else some (stV k i.toNatClampNeg)
/-- a row of the class's own numbers goes into a row of ints -/
def cpS (k : Nat) (h : MHp) (sp : Int32) (q : Option Nat) (dp n : Int32) : Option MHp := (rcv 20 h q).bind fun b => if sp < 0 ∨ dp < 0 ∨ n < 0 ∨ 4 < sp.toNatClampNeg + n.toNatClampNeg ∨ hN h b < dp.toNatClampNeg + n.toNatClampNeg then none else some (sAI h b (va_cpy (stV k) (hAI h b) sp.toNatClampNeg dp.toNatClampNeg n.toNatClampNeg))
section Rs
variable {p : Program} {l : Launch} {e : Env} {R : Room} {s : State} {m : MethodId} {args : Array Value} {below : List Frame} {meth : Method} {c : Code} {H : Heap} {locs : List Loc} {cells slots : Nat} {Q : State → Prop}
variable {cc : ByteArray} {pc nL : Nat} {ls : Array Slot} {rest : List Value} {own : String} {G : Env0} {h h1 : MHp} {ρ : Type} {res : ρ}
theorem r_idiv (C : Cx p s m meth c args own nL cc (gD G) (gC G)) (hdg : decode cc pc = .ok (.idiv, 1)) {x y : Int32} {f : Unit → Option ρ} (hh : (nz y).bind f = some res)
    (kk : ¬ y = 0 → f () = some res → W p l e R s m args below meth c H locs cells slots Q (F0 m (pc + 1) ls (.int (x / y) :: rest))) : W p l e R s m args below meth c H locs cells slots Q (F0 m pc ls (.int y :: .int x :: rest)) := by
  by_cases hy : y = 0
  · simp only [nz, if_pos hy] at hh; cases hh
  · simp only [nz, if_neg hy, Option.bind_some] at hh
    exact lv_idiv C.1 C.2.1 hdg hy (kk hy hh)
theorem r_irem (C : Cx p s m meth c args own nL cc (gD G) (gC G)) (hdg : decode cc pc = .ok (.irem, 1)) {x y : Int32} {f : Unit → Option ρ} (hh : (nz y).bind f = some res)
    (kk : ¬ y = 0 → f () = some res → W p l e R s m args below meth c H locs cells slots Q (F0 m (pc + 1) ls (.int (x - x / y * y) :: rest))) : W p l e R s m args below meth c H locs cells slots Q (F0 m pc ls (.int y :: .int x :: rest)) := by
  by_cases hy : y = 0
  · simp only [nz, if_pos hy] at hh; cases hh
  · simp only [nz, if_neg hy, Option.bind_some] at hh
    exact lv_irem C.1 C.2.1 hdg hy (kk hy hh)
theorem r_ldiv (C : Cx p s m meth c args own nL cc (gD G) (gC G)) (hdg : decode cc pc = .ok (.ldiv, 1)) {x y : Int64} {f : Unit → Option ρ} (hh : (nzL y).bind f = some res)
    (kk : ¬ y = 0 → f () = some res → W p l e R s m args below meth c H locs cells slots Q (F0 m (pc + 1) ls (.long (x / y) :: rest))) : W p l e R s m args below meth c H locs cells slots Q (F0 m pc ls (.long y :: .long x :: rest)) := by
  by_cases hy : y = 0
  · simp only [nzL, if_pos hy] at hh; cases hh
  · simp only [nzL, if_neg hy, Option.bind_some] at hh
    exact lv_ldiv C.1 C.2.1 hdg hy (kk hy hh)
theorem r_lrem (C : Cx p s m meth c args own nL cc (gD G) (gC G)) (hdg : decode cc pc = .ok (.lrem, 1)) {x y : Int64} {f : Unit → Option ρ} (hh : (nzL y).bind f = some res)
    (kk : ¬ y = 0 → f () = some res → W p l e R s m args below meth c H locs cells slots Q (F0 m (pc + 1) ls (.long (x - x / y * y) :: rest))) : W p l e R s m args below meth c H locs cells slots Q (F0 m pc ls (.long y :: .long x :: rest)) := by
  by_cases hy : y = 0
  · simp only [nzL, if_pos hy] at hh; cases hh
  · simp only [nzL, if_neg hy, Option.bind_some] at hh
    exact lv_lrem C.1 C.2.1 hdg hy (kk hy hh)
theorem r_tsw (C : Cx p s m meth c args own nL cc (gD G) (gC G)) {dflt lo hi : Int} {offs : Array Int} {len : Nat} {x v : Int32} {off : Int} {tgt : Nat} (hdg : decode cc pc = .ok (.tableswitch dflt lo hi offs, len)) (hx : x = v) (h1 : ¬ v.toInt < lo) (h2 : ¬ hi < v.toInt) (ho : offs[(v.toInt - lo).toNat]? = some off) (ht : (pc : Int) + off = (tgt : Int))
    (k : W p l e R s m args below meth c H locs cells slots Q (F0 m tgt ls rest)) : W p l e R s m args below meth c H locs cells slots Q (F0 m pc ls (.int x :: rest)) := by
  subst hx
  exact lv_tableIn C.1 C.2.1 hdg h1 h2 ho ht k
theorem r_objInit (C : Cx p s m meth c args own nL cc (gD G) (gC G)) {idx : Nat} (hlink : Cond.methodLink own idx Lib.objectInit ∈ tbl) (hinst : Cond.instanceMethod Lib.objectInit ∈ tbl) (hcode : Cond.code Lib.objectInit ⟨#[0xb1]⟩ 1 none ∈ tbl) (hsz : ls.size = nL) {a : Nat} (hdg : decode cc pc = .ok (.invokespecial idx, 3)) (hfr : 1 ≤ R.frames) (hlo : (rest.map fun v => v.category).sum + 12 ≤ R.locals)
    (kk : W p l e R s m args below meth c H locs cells slots Q (F0 m (pc + 3) ls rest)) : W p l e R s m args below meth c H locs cells slots Q (F0 m pc ls (va_rf (some a) :: rest)) :=
  W.eq (g2 := F0 m pc ls (.ref a :: rest)) rfl (W.objInit C.1 C.2.1 C.2.2.2.1 (C.2.2.2.2.1 _ hlink) (C.2.2.2.2.1 _ hinst) (C.2.2.2.2.1 _ hcode) rfl (hsz.trans C.2.2.1.symm) rfl hdg hfr (by simpa using hlo) kk)
/-- a call of an object's method: no cell is made -/
theorem r_cV {σ : Type} (C : Cx p s m meth c args own nL cc (gD G) (gC G)) (X : Ex G s s.heap) (hm : mHp (gD G) (gC G) (gB G) h H) (hS : va_S (fun q => gB G ≤ q) s.heap H locs) {y : MethodName} {ccy : ByteArray} {nLy fr lo n index kd : Nat} {rt : Option FieldType} {o : Option Nat} {As : List Value} (F : Mlk own index y ccy nLy rt n) (V : Cond.instanceMethod y ∈ tbl ∧ Cond.selects y.cls y y ∈ tbl ∧ (0 < kd ∧ kd < 20) ∧ ∃ q : vw_C, vwCl[kd - 1]? = some q ∧ q.1 = y.cls)
    {g : Nat → Option σ} {f : Nat → σ → Option ρ} (hh : ((rcv kd h o).bind fun b => (g b).bind (f b)) = some res) {vv : σ → Option Value} {hp : σ → MHp} (hM : ∀ (b : Nat) (r : σ), g b = some r → MG l y ccy nLy rt fr lo 0 0 G h (.ref b :: As) (vv r) (hp r)) (hn : As.length = n) {st0 : List Value} (hst : st0 = As.reverse ++ va_rf o :: rest) (hW : (rest.map fun v => v.category).sum ≤ 8) (hfr : fr + 1 ≤ R.frames) (hlo : 8 + (nLy + 11) + lo ≤ R.locals) (hsz : ls.size = nL) (hdg : decode cc pc = .ok (.invokevirtual index, 3))
    (kk : ∀ (b : Nat) (r : σ) (H1 : Heap) (locs1 : List Loc), g b = some r → f b r = some res → mHp (gD G) (gC G) (gB G) (hp r) H1 → va_S (fun q => gB G ≤ q) s.heap H1 locs1 → W p l e R s m args below meth c H1 locs1 cells slots Q (F0 m (pc + 3) ls ((vv r).toList ++ rest))) (hroom : cells ≤ R.cells ∧ slots ≤ R.slots := by first | exact ⟨Nat.zero_le _, Nat.zero_le _⟩ | assumption) : W p l e R s m args below meth c H locs cells slots Q (F0 m pc ls st0) := by
  obtain ⟨b, hb, hh⟩ := Option.bind_eq_some_iff.mp hh
  obtain ⟨r, hg, hf⟩ := Option.bind_eq_some_iff.mp hh
  obtain ⟨rfl, hk⟩ := rcv_some hb
  obtain ⟨v1, v2, v3, q, v4, v5⟩ := V
  exact r_callV C X hm hS F v1 v2 (hM b r hg) hk ⟨v3, v4, v5⟩ hn hst hW hfr hlo hroom hsz hdg (fun H1 locs1 a1 a2 => kk b r H1 locs1 hg hf a1 a2)
theorem r_cS {σ : Type} (C : Cx p s m meth c args own nL cc (gD G) (gC G)) (X : Ex G s s.heap) (hm : mHp (gD G) (gC G) (gB G) h H) (hS : va_S (fun q => gB G ≤ q) s.heap H locs) {y : MethodName} {ccy : ByteArray} {nLy fr lo n index : Nat} {rt : Option FieldType} {As : List Value} (F : Mlk own index y ccy nLy rt n) (V : Cond.static y ∈ tbl)
    {g : Option σ} {f : σ → Option ρ} (hh : g.bind f = some res) {vv : σ → Option Value} {hp : σ → MHp} (hM : ∀ (r : σ), g = some r → MG l y ccy nLy rt fr lo 0 0 G h As (vv r) (hp r)) (hn : As.length = n) {st0 : List Value} (hst : st0 = As.reverse ++ rest) (hW : (rest.map fun v => v.category).sum ≤ 8) (hfr : fr + 1 ≤ R.frames) (hlo : 8 + (nLy + 11) + lo ≤ R.locals) (hsz : ls.size = nL) (hdg : decode cc pc = .ok (.invokestatic index, 3))
    (kk : ∀ (r : σ) (H1 : Heap) (locs1 : List Loc), g = some r → f r = some res → mHp (gD G) (gC G) (gB G) (hp r) H1 → va_S (fun q => gB G ≤ q) s.heap H1 locs1 → W p l e R s m args below meth c H1 locs1 cells slots Q (F0 m (pc + 3) ls ((vv r).toList ++ rest))) (hroom : cells ≤ R.cells ∧ slots ≤ R.slots := by first | exact ⟨Nat.zero_le _, Nat.zero_le _⟩ | assumption) : W p l e R s m args below meth c H locs cells slots Q (F0 m pc ls st0) := by
  obtain ⟨r, hg, hf⟩ := Option.bind_eq_some_iff.mp hh
  exact r_callS C X hm hS F V (hM r hg) hn hst hW hfr hlo hroom hsz hdg (fun H1 locs1 a1 a2 => kk r H1 locs1 hg hf a1 a2)
end Rs
section Rt
variable {p : Program} {l : Launch} {e : Env} {R : Room} {s : State} {m : MethodId} {args : Array Value} {below : List Frame} {meth : Method} {c : Code} {H : Heap} {locs : List Loc} {mc ms : Nat} {Q : State → Prop}
variable {cc : ByteArray} {pc nL : Nat} {ls : Array Slot} {own : String} {G : Env0} {h : MHp}
theorem r_iretW {res : Int32 × MHp} {r : Int32} (hQ : Q = MQ below (QG G (some (.int res.1)) res.2) args s mc ms (fun q => gB G ≤ q)) (C : Cx p s m meth c args own nL cc (gD G) (gC G)) (hr : meth.sig.returnType = some .int) (hm : mHp (gD G) (gC G) (gB G) h H) (hS : va_S (fun q => gB G ≤ q) s.heap H locs) (hh : some (r, h) = some res) (hdg : decode cc pc = .ok (.ireturn, 1)) : W p l e R s m args below meth c H locs mc ms Q (F0 m pc ls [.int r]) := by
  cases hh; exact r_iret hQ C hr hm hS rfl hdg
theorem r_iretP {res r : Int32} (hQ : Q = MQ below (QG G (some (.int res)) h) args s mc ms (fun q => gB G ≤ q)) (C : Cx p s m meth c args own nL cc (gD G) (gC G)) (hr : meth.sig.returnType = some .int) (hm : mHp (gD G) (gC G) (gB G) h H) (hS : va_S (fun q => gB G ≤ q) s.heap H locs) (hh : some r = some res) (hdg : decode cc pc = .ok (.ireturn, 1)) : W p l e R s m args below meth c H locs mc ms Q (F0 m pc ls [.int r]) := by
  cases hh; exact r_iret hQ C hr hm hS rfl hdg
theorem r_bretW {res : Int32 × MHp} {r : Int32} (hQ : Q = MQ below (QG G (some (.int res.1)) res.2) args s mc ms (fun q => gB G ≤ q)) (C : Cx p s m meth c args own nL cc (gD G) (gC G)) (hr : meth.sig.returnType = some .boolean) (hm : mHp (gD G) (gC G) (gB G) h H) (hS : va_S (fun q => gB G ≤ q) s.heap H locs) (h01 : r = 0 ∨ r = 1) (hh : some (r, h) = some res) (hdg : decode cc pc = .ok (.ireturn, 1)) : W p l e R s m args below meth c H locs mc ms Q (F0 m pc ls [.int r]) := by
  cases hh; exact r_bret hQ C hr hm hS h01 rfl hdg
theorem r_bretP {res r : Int32} (hQ : Q = MQ below (QG G (some (.int res)) h) args s mc ms (fun q => gB G ≤ q)) (C : Cx p s m meth c args own nL cc (gD G) (gC G)) (hr : meth.sig.returnType = some .boolean) (hm : mHp (gD G) (gC G) (gB G) h H) (hS : va_S (fun q => gB G ≤ q) s.heap H locs) (h01 : r = 0 ∨ r = 1) (hh : some r = some res) (hdg : decode cc pc = .ok (.ireturn, 1)) : W p l e R s m args below meth c H locs mc ms Q (F0 m pc ls [.int r]) := by
  cases hh; exact r_bret hQ C hr hm hS h01 rfl hdg
theorem rB_some {r x : Int32} (h : rB r = some x) : r = 0 ∨ r = 1 := by
  by_cases hr : r = 0 ∨ r = 1
  · exact hr
  · simp only [rB, if_neg hr] at h; cases h
theorem r_rbretW {res : Int32 × MHp} {r : Int32} (hQ : Q = MQ below (QG G (some (.int res.1)) res.2) args s mc ms (fun q => gB G ≤ q)) (C : Cx p s m meth c args own nL cc (gD G) (gC G)) (hr : meth.sig.returnType = some .boolean) (hm : mHp (gD G) (gC G) (gB G) h H) (hS : va_S (fun q => gB G ≤ q) s.heap H locs) (hh : ((rB r).bind fun _ => some (r, h)) = some res) (hdg : decode cc pc = .ok (.ireturn, 1)) : W p l e R s m args below meth c H locs mc ms Q (F0 m pc ls [.int r]) := by
  obtain ⟨x, hx, hh⟩ := Option.bind_eq_some_iff.mp hh
  cases hh; exact r_bret hQ C hr hm hS (rB_some hx) rfl hdg
theorem r_rbretP {res r : Int32} (hQ : Q = MQ below (QG G (some (.int res)) h) args s mc ms (fun q => gB G ≤ q)) (C : Cx p s m meth c args own nL cc (gD G) (gC G)) (hr : meth.sig.returnType = some .boolean) (hm : mHp (gD G) (gC G) (gB G) h H) (hS : va_S (fun q => gB G ≤ q) s.heap H locs) (hh : ((rB r).bind fun _ => some r) = some res) (hdg : decode cc pc = .ok (.ireturn, 1)) : W p l e R s m args below meth c H locs mc ms Q (F0 m pc ls [.int r]) := by
  obtain ⟨x, hx, hh⟩ := Option.bind_eq_some_iff.mp hh
  cases hh; exact r_bret hQ C hr hm hS (rB_some hx) rfl hdg
theorem r_lretW {res : Int64 × MHp} {r : Int64} (hQ : Q = MQ below (QG G (some (.long res.1)) res.2) args s mc ms (fun q => gB G ≤ q)) (C : Cx p s m meth c args own nL cc (gD G) (gC G)) (hr : meth.sig.returnType = some .long) (hm : mHp (gD G) (gC G) (gB G) h H) (hS : va_S (fun q => gB G ≤ q) s.heap H locs) (hh : some (r, h) = some res) (hdg : decode cc pc = .ok (.lreturn, 1)) : W p l e R s m args below meth c H locs mc ms Q (F0 m pc ls [.long r]) := by
  cases hh; exact r_lret hQ C hr hm hS rfl hdg
theorem r_lretP {res r : Int64} (hQ : Q = MQ below (QG G (some (.long res)) h) args s mc ms (fun q => gB G ≤ q)) (C : Cx p s m meth c args own nL cc (gD G) (gC G)) (hr : meth.sig.returnType = some .long) (hm : mHp (gD G) (gC G) (gB G) h H) (hS : va_S (fun q => gB G ≤ q) s.heap H locs) (hh : some r = some res) (hdg : decode cc pc = .ok (.lreturn, 1)) : W p l e R s m args below meth c H locs mc ms Q (F0 m pc ls [.long r]) := by
  cases hh; exact r_lret hQ C hr hm hS rfl hdg
theorem r_aretW {res : Option Nat × MHp} {r : Option Nat} (hQ : Q = MQ below (QG G (some (va_rf res.1)) res.2) args s mc ms (fun q => gB G ≤ q)) (C : Cx p s m meth c args own nL cc (gD G) (gC G)) {rt : FieldType} (hr : meth.sig.returnType = some rt) (hrt : (∃ n, rt = .object n) ∨ ∃ t, rt = .array t) (hm : mHp (gD G) (gC G) (gB G) h H) (hS : va_S (fun q => gB G ≤ q) s.heap H locs) (hh : some (r, h) = some res) (hdg : decode cc pc = .ok (.areturn, 1)) : W p l e R s m args below meth c H locs mc ms Q (F0 m pc ls [va_rf r]) := by
  cases hh; exact r_aret hQ C hr hrt hm hS rfl hdg
theorem r_vretW {res : MHp} (hQ : Q = MQ below (QG G none res) args s mc ms (fun q => gB G ≤ q)) (C : Cx p s m meth c args own nL cc (gD G) (gC G)) (hr : meth.sig.returnType = none) (hm : mHp (gD G) (gC G) (gB G) h H) (hS : va_S (fun q => gB G ≤ q) s.heap H locs) (hh : some h = some res) (hdg : decode cc pc = .ok (.return_, 1)) : W p l e R s m args below meth c H locs mc ms Q (F0 m pc ls []) := by
  cases hh; exact r_vret hQ C hr hm hS rfl hdg
theorem r_vretP (hQ : Q = MQ below (QG G none h) args s mc ms (fun q => gB G ≤ q)) (C : Cx p s m meth c args own nL cc (gD G) (gC G)) (hr : meth.sig.returnType = none) (hm : mHp (gD G) (gC G) (gB G) h H) (hS : va_S (fun q => gB G ≤ q) s.heap H locs) (hdg : decode cc pc = .ok (.return_, 1)) : W p l e R s m args below meth c H locs mc ms Q (F0 m pc ls []) := r_vret hQ C hr hm hS rfl hdg
end Rt
/-- above any turn that a loop can need -/
def FUEL : Nat := 4000000
theorem tsw_in {x : Int32} {n : Nat} (h : ∀ j : Nat, j < n → ¬ x = Int32.ofNat j) (hn : n ≤ 64) : x.toInt < 0 ∨ (n : Int) - 1 < x.toInt := by
  rcases Int.lt_or_le x.toInt 0 with h0 | h0
  · exact Or.inl h0
  · rcases Int.lt_or_le ((n : Int) - 1) x.toInt with h1 | h1
    · exact Or.inr h1
    · exfalso
      refine h x.toInt.toNat (by omega) ?_
      apply Int32.toInt_inj.mp
      rw [Int32.toInt_ofNat_of_lt (by omega)]
      omega
theorem tsw_out4 {x : Int32} (h0 : ¬ x = 0) (h1 : ¬ x = 1) (h2 : ¬ x = 2) (h3 : ¬ x = 3) : x.toInt < 0 ∨ (3 : Int) < x.toInt := tsw_in (n := 4) (fun j hj => by rcases (show j = 0 ∨ j = 1 ∨ j = 2 ∨ j = 3 by omega) with rfl | rfl | rfl | rfl <;> assumption) (by decide)
theorem tsw_out3 {x : Int32} (h0 : ¬ x = 0) (h1 : ¬ x = 1) (h2 : ¬ x = 2) : x.toInt < 0 ∨ (2 : Int) < x.toInt := tsw_in (n := 3) (fun j hj => by rcases (show j = 0 ∨ j = 1 ∨ j = 2 by omega) with rfl | rfl | rfl <;> assumption) (by decide)
theorem tsw_out7 {x : Int32} (h0 : ¬ x = 0) (h1 : ¬ x = 1) (h2 : ¬ x = 2) (h3 : ¬ x = 3) (h4 : ¬ x = 4) (h5 : ¬ x = 5) (h6 : ¬ x = 6) : x.toInt < 0 ∨ (6 : Int) < x.toInt := tsw_in (n := 7) (fun j hj => by rcases (show j = 0 ∨ j = 1 ∨ j = 2 ∨ j = 3 ∨ j = 4 ∨ j = 5 ∨ j = 6 by omega) with rfl | rfl | rfl | rfl | rfl | rfl | rfl <;> assumption) (by decide)
theorem tsw_out11 {x : Int32} (h0 : ¬ x = 0) (h1 : ¬ x = 1) (h2 : ¬ x = 2) (h3 : ¬ x = 3) (h4 : ¬ x = 4) (h5 : ¬ x = 5) (h6 : ¬ x = 6) (h7 : ¬ x = 7) (h8 : ¬ x = 8) (h9 : ¬ x = 9) (h10 : ¬ x = 10) : x.toInt < 0 ∨ (10 : Int) < x.toInt := tsw_in (n := 11) (fun j hj => by rcases (show j = 0 ∨ j = 1 ∨ j = 2 ∨ j = 3 ∨ j = 4 ∨ j = 5 ∨ j = 6 ∨ j = 7 ∨ j = 8 ∨ j = 9 ∨ j = 10 by omega) with rfl | rfl | rfl | rfl | rfl | rfl | rfl | rfl | rfl | rfl | rfl <;> assumption) (by decide)
theorem vc_i (x : Int32) : (Value.int x).category = 1 := rfl
theorem vc_l (x : Int64) : (Value.long x).category = 2 := rfl
theorem vc_r (a : Nat) : (Value.ref a).category = 1 := rfl
section Nm
variable {p : Program} {l : Launch} {e : Env} {R : Room} {s : State} {m : MethodId} {args : Array Value} {below : List Frame} {meth : Method} {c : Code} {H : Heap} {locs : List Loc} {cells slots : Nat} {Q : State → Prop} {pc : Nat} {ls : Array Slot} {rest : List Value} {ρ : Type} {res : ρ}
theorem r_nmI {x : Int32} {f : Int32 → Option ρ} (hh : (some x).bind f = some res) (kk : ∀ y : Int32, y = x → f y = some res → W p l e R s m args below meth c H locs cells slots Q (F0 m pc ls (.int y :: rest))) : W p l e R s m args below meth c H locs cells slots Q (F0 m pc ls (.int x :: rest)) := kk x rfl hh
theorem r_nmJ {x : Int64} {f : Int64 → Option ρ} (hh : (some x).bind f = some res) (kk : ∀ y : Int64, y = x → f y = some res → W p l e R s m args below meth c H locs cells slots Q (F0 m pc ls (.long y :: rest))) : W p l e R s m args below meth c H locs cells slots Q (F0 m pc ls (.long x :: rest)) := kk x rfl hh
end Nm

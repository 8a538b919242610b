def sxC (i : Nat) : Option Unit := if i < 9 then some () else none
def txB (i : Nat) (j : Int32) : Option Int32 := if j < 0 ∨ sxL.getD i 0 ≤ j.toNatClampNeg then none else some ((sxB.getD i []).getD j.toNatClampNeg 0)
def rC (v : Int32) : Option Int32 := if (v.toUInt32 % 65536).toInt32 = v then some v else none
theorem sxC_some {i : Nat} {u : Unit} (h : sxC i = some u) : i < 9 := by
  by_cases hi : i < 9
  · exact hi
  · simp only [sxC, if_neg hi] at h; cases h
section Tx
variable {p : Program} {l : Launch} {e : Env} {R : Room} {s : State} {m : MethodId} {args : Array Value} {below : List Frame} {meth : Method} {c : Code} {H : Heap} {locs : List Loc} {cells slots : Nat} {Q : State → Prop}
variable {cc : ByteArray} {pc nL : Nat} {ls : Array Slot} {rest : List Value} {own : String} {G : Env0} {h : MHp} {ρ : Type} {res : ρ}
theorem r_sgetV (C : Cx p s m meth c args own nL cc (gD G) (gC G)) (X : Ex G s s.heap) (hS : va_S (fun q => gB G ≤ q) s.heap H locs) {i index : Nat} (hlink : Cond.fieldLink own index "java/lang/String" "value" "[B" ∈ tbl) (hdg : decode cc pc = .ok (.getfield index, 3)) {f : Unit → Option ρ} (hh : (sxC i).bind f = some res)
    (kk : f () = some res → W p l e R s m args below meth c H locs cells slots Q (F0 m (pc + 3) ls (.ref (G.2.2.2.2.2 i) :: rest))) : W p l e R s m args below meth c H locs cells slots Q (F0 m pc ls (.ref (G.2.2.2.2.1 i) :: rest)) := by
  obtain ⟨u, hu, hf⟩ := Option.bind_eq_some_iff.mp hh
  exact vk_getf C.1 C.2.1 ((X.2.1.2.1 i (sxC_some hu)).2.2.1) hS C.2.2.2.1 (C.2.2.2.2.1 _ hlink) (fun _ h => h) hdg (kk hf)
theorem r_sgetC (C : Cx p s m meth c args own nL cc (gD G) (gC G)) (X : Ex G s s.heap) (hS : va_S (fun q => gB G ≤ q) s.heap H locs) {i index : Nat} (hlink : Cond.fieldLink own index "java/lang/String" "coder" "B" ∈ tbl) (hdg : decode cc pc = .ok (.getfield index, 3)) {f : Unit → Option ρ} (hh : (sxC i).bind f = some res)
    (kk : f () = some res → W p l e R s m args below meth c H locs cells slots Q (F0 m (pc + 3) ls (.int 0 :: rest))) : W p l e R s m args below meth c H locs cells slots Q (F0 m pc ls (.ref (G.2.2.2.2.1 i) :: rest)) := by
  obtain ⟨u, hu, hf⟩ := Option.bind_eq_some_iff.mp hh
  exact vk_getf C.1 C.2.1 ((X.2.1.2.1 i (sxC_some hu)).2.1) hS C.2.2.2.1 (C.2.2.2.2.1 _ hlink) (fun _ h => h) hdg (kk hf)
theorem r_getsC (C : Cx p s m meth c args own nL cc (gD G) (gC G)) (X : Ex G s s.heap) (hS : va_S (fun q => gB G ≤ q) s.heap H locs) {index : Nat} (hlink : Cond.fieldLink own index "java/lang/String" "COMPACT_STRINGS" "Z" ∈ tbl) (hdg : decode cc pc = .ok (.getstatic index, 3))
    (kk : W p l e R s m args below meth c H locs cells slots Q (F0 m (pc + 3) ls (.int 1 :: rest))) : W p l e R s m args below meth c H locs cells slots Q (F0 m pc ls rest) :=
  va_gets C.1 C.2.1 X.2.2.2.1 hS C.2.2.2.1 (C.2.2.2.2.1 _ hlink) (fun _ h => h) hdg kk
theorem r_getsQ (C : Cx p s m meth c args own nL cc (gD G) (gC G)) (X : Ex G s s.heap) (hS : va_S (fun q => gB G ≤ q) s.heap H locs) {index : Nat} (hlink : Cond.fieldLink own index "jdk/internal/util/Preconditions" "SIOOBE_FORMATTER" "Ljava/util/function/BiFunction;" ∈ tbl) (hdg : decode cc pc = .ok (.getstatic index, 3))
    (kk : ∀ o : Option Nat, W p l e R s m args below meth c H locs cells slots Q (F0 m (pc + 3) ls (va_rf o :: rest))) : W p l e R s m args below meth c H locs cells slots Q (F0 m pc ls rest) := by
  rcases X.2.2.2.2.2.2 with hz | ⟨t, hz⟩
  · exact va_gets C.1 C.2.1 hz hS C.2.2.2.1 (C.2.2.2.2.1 _ hlink) (fun _ h => h) hdg (kk none)
  · exact va_gets C.1 C.2.1 hz hS C.2.2.2.1 (C.2.2.2.2.1 _ hlink) (fun _ h => h) hdg (kk (some t))
theorem r_vlen (C : Cx p s m meth c args own nL cc (gD G) (gC G)) (X : Ex G s s.heap) (hS : va_S (fun q => gB G ≤ q) s.heap H locs) {i : Nat} (hdg : decode cc pc = .ok (.arraylength, 1)) {f : Unit → Option ρ} (hh : (sxC i).bind f = some res)
    (kk : f () = some res → W p l e R s m args below meth c H locs cells slots Q (F0 m (pc + 1) ls (.int (Int32.ofNat (sxL.getD i 0)) :: rest))) : W p l e R s m args below meth c H locs cells slots Q (F0 m pc ls (.ref (G.2.2.2.2.2 i) :: rest)) := by
  obtain ⟨u, hu, hf⟩ := Option.bind_eq_some_iff.mp hh
  obtain ⟨cell, q1, q2, q3, q4, q5, q6, q7⟩ := ((X.2.1.2.1 i (sxC_some hu)).2.2.2).kept hS.2.1
  exact W.alen (n := Int32.ofNat (sxL.getD i 0)) C.1 C.2.1 q1 q2 q5 rfl rfl hdg (kk hf)
theorem r_vald (C : Cx p s m meth c args own nL cc (gD G) (gC G)) (X : Ex G s s.heap) (hS : va_S (fun q => gB G ≤ q) s.heap H locs) {i : Nat} (hdg : decode cc pc = .ok (.baload, 1)) {j : Int32} {f : Int32 → Option ρ} (hh : ((sxC i).bind fun _ => (txB i j).bind f) = some res)
    (kk : ∀ x : Int32, txB i j = some x → f x = some res → W p l e R s m args below meth c H locs cells slots Q (F0 m (pc + 1) ls (.int x :: rest))) : W p l e R s m args below meth c H locs cells slots Q (F0 m pc ls (.int j :: .ref (G.2.2.2.2.2 i) :: rest)) := by
  obtain ⟨u, hu, hh⟩ := Option.bind_eq_some_iff.mp hh
  obtain ⟨x, hx, hf⟩ := Option.bind_eq_some_iff.mp hh
  have hx0 := hx
  unfold txB at hx
  split at hx
  · cases hx
  rename_i hn
  cases hx
  obtain ⟨cell, q1, q2, q3, q4, q5, q6, q7⟩ := ((X.2.1.2.1 i (sxC_some hu)).2.2.2).kept hS.2.1
  have hi : j.toNatClampNeg < sxL.getD i 0 := Nat.not_le.mp fun q => hn (Or.inr q)
  exact W.bald C.1 C.2.1 q1 q2 q3 (fun q => by rcases q with q | q; exact hn (Or.inl q); omega) (q6 _ hi) rfl rfl hdg (kk _ hx0 hf)
/-- a call of a method of a text -/
theorem r_cT {σ : Type} (C : Cx p s m meth c args own nL cc (gD G) (gC G)) (X : Ex G s s.heap) (hm : mHp (gD G) (gC G) (gB G) h H) (hS : va_S (fun q => gB G ≤ q) s.heap H locs) {y : MethodName} {ccy : ByteArray} {nLy fr lo n index i : Nat} {rt : Option FieldType} {As : List Value} (F : Mlk own index y ccy nLy rt n) (hl : Cond.methodLink own index y ∈ tbl) (V : Cond.instanceMethod y ∈ tbl ∧ Cond.selects "java/lang/String" y y ∈ tbl)
    {g : Option σ} {f : σ → Option ρ} (hh : ((sxC i).bind fun _ => g.bind f) = some res) {vv : σ → Option Value} {hp : σ → MHp} (hM : ∀ (r : σ), g = some r → MG l y ccy nLy rt fr lo 0 0 G h (.ref (G.2.2.2.2.1 i) :: As) (vv r) (hp r)) (hn : As.length = n) {st0 : List Value} (hst : st0 = As.reverse ++ .ref (G.2.2.2.2.1 i) :: rest) (hW : (rest.map fun v => v.category).sum ≤ 8) (hfr : fr + 1 ≤ R.frames) (hlo : 8 + (nLy + 11) + lo ≤ R.locals) (hsz : ls.size = nL) (hdg : decode cc pc = .ok (.invokevirtual index, 3))
    (kk : ∀ (r : σ) (H1 : Heap) (locs1 : List Loc), g = some r → f r = some res → mHp (gD G) (gC G) (gB G) (hp r) H1 → va_S (fun q => gB G ≤ q) s.heap H1 locs1 → W p l e R s m args below meth c H1 locs1 cells slots Q (F0 m (pc + 3) ls ((vv r).toList ++ rest))) (hroom : cells ≤ R.cells ∧ slots ≤ R.slots := by first | exact ⟨Nat.zero_le _, Nat.zero_le _⟩ | assumption) : W p l e R s m args below meth c H locs cells slots Q (F0 m pc ls st0) := by
  obtain ⟨u, hu, hh⟩ := Option.bind_eq_some_iff.mp hh
  obtain ⟨r, hg, hf⟩ := Option.bind_eq_some_iff.mp hh
  subst hst
  have hrec := vk_recv X.2.1.2 (sxC_some hu) hS
  have hpre := preW C X hm hS (As := .ref (G.2.2.2.2.1 i) :: As)
  have hts := C.2.2.2.2.1
  exact va_callG (va_runV (C := "java/lang/String") (As := As) (rest := rest) ⟨C.1, C.2.1, C.2.2.1, C.2.2.2.1, hts⟩ (hM r hg) ⟨r_roomB C F hl hfr hlo, hts _ V.1, hts _ V.2⟩ ⟨hpre.1, hrec, hpre.2⟩ rfl hn hsz rfl (lv_room hW) hdg hroom) hS (fun H1 locs1 a1 a2 => kk r H1 locs1 hg hf a1 a2)
theorem rC_some {r x : Int32} (h : rC r = some x) : narrow .char (.int r) = .int r := by
  by_cases hr : (r.toUInt32 % 65536).toInt32 = r
  · rw [← hr]; exact pk_nc r
  · simp only [rC, if_neg hr] at h; cases h
theorem r_rcretP {r res : Int32} (hQ : Q = MQ below (QG G (some (.int res)) h) args s cells slots (fun q => gB G ≤ q)) (C : Cx p s m meth c args own nL cc (gD G) (gC G)) (hr : meth.sig.returnType = some .char) (hm : mHp (gD G) (gC G) (gB G) h H) (hS : va_S (fun q => gB G ≤ q) s.heap H locs) (hh : ((rC r).bind fun _ => some r) = some res) (hdg : decode cc pc = .ok (.ireturn, 1)) : W p l e R s m args below meth c H locs cells slots Q (F0 m pc ls [.int r]) := by
  obtain ⟨x, hx, hh⟩ := Option.bind_eq_some_iff.mp hh
  cases hh
  exact r_cret hQ C hr hm hS (rC_some hx) rfl hdg
theorem r_byretP {r res : Int32} (hQ : Q = MQ below (QG G (some (.int res)) h) args s cells slots (fun q => gB G ≤ q)) (C : Cx p s m meth c args own nL cc (gD G) (gC G)) (hr : meth.sig.returnType = some .byte) (hm : mHp (gD G) (gC G) (gB G) h H) (hS : va_S (fun q => gB G ≤ q) s.heap H locs) (hh : some r = some res) (hn : narrow .byte (.int r) = .int r) (hdg : decode cc pc = .ok (.ireturn, 1)) : W p l e R s m args below meth c H locs cells slots Q (F0 m pc ls [.int r]) := by
  cases hh
  exact r_cret hQ C hr hm hS hn rfl hdg
end Tx
theorem zq_some {C n d : String} {A : Nat → Prop} {U : State} {H : Heap} (h : va_Zq C n d A U H) : ∃ o : Option Nat, va_Z C n d (va_rf o) A U H := by
  rcases h with h | ⟨t, h⟩
  · exact ⟨none, h⟩
  · exact ⟨some t, h⟩
section Gu
variable {p : Program} {l : Launch} {e : Env} {R : Room} {s : State} {m : MethodId} {args : Array Value} {below : List Frame} {meth : Method} {c : Code} {H : Heap} {locs : List Loc} {cells slots : Nat} {Q : State → Prop}
variable {cc : ByteArray} {pc nL : Nat} {ls : Array Slot} {rest : List Value} {own : String} {G : Env0}
theorem r_getsU (C : Cx p s m meth c args own nL cc (gD G) (gC G)) (hs : va_S (fun q => gB G ≤ q) s.heap H locs) {T n d : String} {index : Nat} {o : Option Nat} (hz : va_Z T n d (va_rf o) (fun q => gB G ≤ q) s s.heap) (hlink : Cond.fieldLink own index T n d ∈ tbl) (hdg : decode cc pc = .ok (.getstatic index, 3))
    (kk : W p l e R s m args below meth c H locs cells slots Q (F0 m (pc + 3) ls (va_rf o :: rest))) : W p l e R s m args below meth c H locs cells slots Q (F0 m pc ls rest) :=
  va_gets C.1 C.2.1 hz hs C.2.2.2.1 (C.2.2.2.2.1 _ hlink) (fun _ h => h) hdg kk
end Gu

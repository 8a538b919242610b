abbrev stT (i : Nat) : Term := .string "CountOfficeModel" (sxI i)
theorem st_t1 : ((List.range 9).all fun i => decide (Cond.exactly (stT i) "java/lang/String" ∈ stWd) && decide (Cond.eq (.field (stT i) "java/lang/String" "coder" "B") (.int 0) ∈ stWd) && decide (Cond.arrayOf (.field (stT i) "java/lang/String" "value" "[B") .byte ∈ stWd) && decide (Cond.eq (.length (.field (stT i) "java/lang/String" "value" "[B")) (.int (Int32.ofNat (sxL.getD i 0))) ∈ stWd)) = true := by decide +kernel
theorem st_t2 : ((List.range 9).all fun i => (List.range (sxL.getD i 0)).all fun j => decide (Cond.eq (.elem (.field (stT i) "java/lang/String" "value" "[B") (.int (Int32.ofNat j))) (.int ((sxB.getD i []).getD j 0)) ∈ stWd)) = true := by decide +kernel
theorem st_t3 : ((List.range 9).all fun i => (List.range 9).all fun j => decide (i = j) || decide (Cond.not (Cond.eq (stT i) (stT j)) ∈ stWd) || decide (Cond.not (Cond.eq (stT j) (stT i)) ∈ stWd)) = true := by decide +kernel
theorem st_Tx {args : Array Value} {s : State} (hts : ∀ w ∈ lw_tbl, w.before args s = true) (hq : ∀ w ∈ stWd, w.before args s = true) (hA : ∀ a : Nat, a < s.heap.size → ¬ (s.heap.size ≤ a)) : ∃ adK adV : Nat → Nat, ExTx s.heap.size adK adV s s.heap := by
  have t1 : ∀ i, i < 9 → _ := fun i hi => List.all_eq_true.mp st_t1 i (List.mem_range.mpr hi)
  simp only [Bool.and_eq_true, decide_eq_true_eq] at t1
  obtain ⟨adK, adV, h1, h2⟩ := vk_Sof (args := args) (s := s) (N := 9) (tm := stT) (len := sxL) (byt := sxB) (A := fun q => s.heap.size ≤ q) (fun i hi => by rcases (show i = 0 ∨ i = 1 ∨ i = 2 ∨ i = 3 ∨ i = 4 ∨ i = 5 ∨ i = 6 ∨ i = 7 ∨ i = 8 by omega) with rfl | rfl | rfl | rfl | rfl | rfl | rfl | rfl | rfl <;> decide)
    (fun i hi => hq _ (t1 i hi).1.1.1) (fun i hi => hq _ (t1 i hi).1.1.2) (fun i hi => hq _ (t1 i hi).1.2) (fun i hi => hq _ (t1 i hi).2)
    (fun i hi j hj => by
      have h := List.all_eq_true.mp (List.all_eq_true.mp st_t2 i (List.mem_range.mpr hi)) j (List.mem_range.mpr hj)
      simp only [decide_eq_true_eq] at h
      exact hq _ h)
    (fun i j hi hj hij => by
      have h := List.all_eq_true.mp (List.all_eq_true.mp st_t3 i (List.mem_range.mpr hi)) j (List.mem_range.mpr hj)
      simp only [Bool.or_eq_true, decide_eq_true_eq] at h
      rcases h with (h | h) | h
      · exact absurd h hij
      · exact Or.inl (hq _ h)
      · exact Or.inr (hq _ h)) hA
  refine ⟨adK, adV, fun i hi => ?_, h1⟩
  have e := h2 i hi
  rcases (show i = 0 ∨ i = 1 ∨ i = 2 ∨ i = 3 ∨ i = 4 ∨ i = 5 ∨ i = 6 ∨ i = 7 ∨ i = 8 by omega) with rfl | rfl | rfl | rfl | rfl | rfl | rfl | rfl | rfl
  · exact vk_R.of (A := args) (hts _ (List.mem_append_right _ (List.mem_of_getElem? (i := 1545) (by decide +kernel)))) e
  · exact vk_R.of (A := args) (hts _ (List.mem_append_right _ (List.mem_of_getElem? (i := 1609) (by decide +kernel)))) e
  · exact vk_R.of (A := args) (hts _ (List.mem_append_right _ (List.mem_of_getElem? (i := 1610) (by decide +kernel)))) e
  · exact vk_R.of (A := args) (hts _ (List.mem_append_right _ (List.mem_of_getElem? (i := 1611) (by decide +kernel)))) e
  · exact vk_R.of (A := args) (hts _ (List.mem_append_right _ (List.mem_of_getElem? (i := 1612) (by decide +kernel)))) e
  · exact vk_R.of (A := args) (hts _ (List.mem_append_right _ (List.mem_of_getElem? (i := 1613) (by decide +kernel)))) e
  · exact vk_R.of (A := args) (hts _ (List.mem_append_right _ (List.mem_of_getElem? (i := 1614) (by decide +kernel)))) e
  · exact vk_R.of (A := args) (hts _ (List.mem_append_right _ (List.mem_of_getElem? (i := 1623) (by decide +kernel)))) e
  · exact vk_R.of (A := args) (hts _ (List.mem_append_right _ (List.mem_of_getElem? (i := 1631) (by decide +kernel)))) e
theorem whole_from (pure : ∀ (L : Nat) (xs : Nat → Int32) (n : Nat), L ≤ 3584 → ∃ res : MHp, mL_law L xs (hE n) = some res) {p : Program} {e : Env} {s : State} {m : MethodId} {below : List Frame} {meth : Method} {c : Code} (l : Launch) (hflags : l.flags = flags0) {b L : Nat} {xs : Nat → Int32} (hL : L ≤ 3584) (C0 : lw_At p s m meth c b L xs) : W p l e room_1 s m #[Value.ref b] below meth c s.heap [] 0 0 (lw_Z below #[Value.ref b] s) (entryFrame m ([Value.ref b] : List Value).toArray 7) := by
  obtain ⟨hx, hb, hr, hml, hown, hts, hX, hbl, hlk, hgv⟩ := C0
  have hq : ∀ w ∈ stWd, w.before #[Value.ref b] s = true := flat_of_before _ hgv
  have hA : ∀ a : Nat, a < s.heap.size → ¬ (s.heap.size ≤ a) := fun a h => Nat.not_le.mpr h
  obtain ⟨D, cs, hK⟩ := st_K hts
  obtain ⟨adK, adV, hTx⟩ := st_Tx hts hq hA
  have hSt := fun (k : Nat) (hk : k < 3) => st_St hts hq (A := fun q => s.heap.size ≤ q) hA k hk
  obtain ⟨sa, hsa⟩ : ∃ sa : Nat → Nat, ExSt s.heap.size sa s s.heap := by
    refine ⟨fun k => if h : k < 3 then Classical.choose (hSt k h) else 0, fun k hk => ?_⟩
    simp only [dif_pos hk]
    exact Classical.choose_spec (hSt k hk)
  have hMi : ExMi s.heap.size s s.heap := ⟨va_Zof (hts _ (List.mem_append_right _ (List.mem_of_getElem? (i := 1562) (by decide +kernel)))) (hts _ (List.mem_append_right _ (List.mem_of_getElem? (i := 22) (by decide +kernel)))) (va_eqt (hq _ (by decide +kernel))) hA, vx_Zqof (hts _ (List.mem_append_right _ (List.mem_of_getElem? (i := 1246) (by decide +kernel)))) (hts _ (List.mem_append_right _ (List.mem_of_getElem? (i := 14) (by decide +kernel)))) (hq _ (by decide +kernel)) hA, vx_Zqof (hts _ (List.mem_append_right _ (List.mem_of_getElem? (i := 1248) (by decide +kernel)))) (hts _ (List.mem_append_right _ (List.mem_of_getElem? (i := 14) (by decide +kernel)))) (hq _ (by decide +kernel)) hA, va_Zqof (hts _ (List.mem_append_right _ (List.mem_of_getElem? (i := 1578) (by decide +kernel)))) (hts _ (List.mem_append_right _ (List.mem_of_getElem? (i := 24) (by decide +kernel)))) (hq _ (by decide +kernel)) hA⟩
  have hAO : ExAO s := ⟨va_AO.of (hts _ (List.mem_append_right _ (List.mem_of_getElem? (i := 204) (by decide +kernel)))), va_AO.of (hts _ (List.mem_append_right _ (List.mem_of_getElem? (i := 46) (by decide +kernel)))), va_AO.of (hts _ (List.mem_append_right _ (List.mem_of_getElem? (i := 1289) (by decide +kernel)))), va_AO.of (hts _ (List.mem_append_right _ (List.mem_of_getElem? (i := 1500) (by decide +kernel))))⟩
  obtain ⟨res, hres⟩ := pure L xs s.heap.size hL
  have hst : l.stackTraces = false := by
    unfold Launch.stackTraces
    rw [hflags]
    decide +kernel
  rw [lg_entry_eq]
  exact c_L_law l hst (D, cs, s.heap.size, sa, adK, adV) (hE s.heap.size) L b xs res hres ⟨hx, hb, hml, hown, fun w hw => hts w (List.mem_filter.mp hw).1, hK, hlk⟩ ⟨hsa, hTx, hAO, hMi⟩ hr hX hbl hbl (Nat.le_refl _) ⟨rfl, Nat.le_refl _, fun a h => absurd rfl h⟩ (lv_entry [Value.ref b] (Nat.le_of_ble_eq_true rfl))

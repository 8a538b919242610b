def mX6_init (h : MHp) (a0 : Nat) (a1 : Option Nat) : Option (MHp) := (some (nA h 20 60)).bind fun h1 => (pR 7 1 h1 (some a0) (some (hS h))).bind fun h2 => (pR 7 0 h2 (some a0) a1).bind fun h3 => some h3
set_option maxRecDepth 100000 in
set_option maxHeartbeats 4000000 in
theorem c_X6_init (l : Launch) (G : Env0) (h : MHp) (a0 : Nat) (a1 : Option Nat) (res : MHp) (hh : mX6_init h a0 a1 = some res) : MG l yX6_init cX6_init 2 none 1 12 1 60 G h [.ref a0, va_rf a1] (none) (res) := by
  refine MG_of (own := RX6) (plainFor_of_name (by decide)) rfl (by simp [lg_sl, va_cat, vc_i, vc_l, vc_r]) ?_
  intro p e s m args below meth c Q ls hQ C X hin hm hs hl hr
  have hl : lv_has ls 2 [(0, .ref a0), (1, va_rf a1)] := by simpa [lv_args, va_cat, vc_i, vc_l, vc_r] using hl
  have hl : lv_has ls 2 [(0, va_rf (some a0)), (1, va_rf a1)] := hl
  unfold mX6_init at hh
  refine r_aload_n C.1 C.2.1 dX6_init_0 rfl (lv_at hl 0 rfl) ?_
  refine r_objInit C (in_tbl q_337 rfl) (in_tbl q_37 rfl) (in_tbl q_38 rfl) hl.1 dX6_init_1 (Nat.le_of_ble_eq_true rfl) (Nat.le_of_ble_eq_true rfl) ?_
  refine r_aload_n C.1 C.2.1 dX6_init_4 rfl (lv_at hl 0 rfl) ?_
  refine lv_bipush (v := 60) C.1 C.2.1 dX6_init_5 (by decide) ?_
  refine r_newaG C hm hs (kd := 20) (w := 4) (by decide) aw20 dX6_init_7 (N := 60) (by decide) (by decide) (by decide) hh (Nat.le_of_ble_eq_true rfl) (Nat.le_of_ble_eq_true rfl) (fun h1 H hh hm hs => ?_)
  refine r_putR C hm hs flX6_9 (Or.inr ⟨ffX6_9, hin rfl⟩) dX6_init_9 hh (fun h2 H locs _ hh hm hs => ?_)
  refine r_aload_n C.1 C.2.1 dX6_init_12 rfl (lv_at hl 0 rfl) ?_
  refine r_aload_n C.1 C.2.1 dX6_init_13 rfl (lv_at hl 1 rfl) ?_
  refine r_putR C hm hs flX6_15 (Or.inr ⟨ffX6_15, hin rfl⟩) dX6_init_14 hh (fun h3 H locs _ hh hm hs => ?_)
  refine W.widen (k := 1) (n := 60) (by omega) (by omega) ?_
  exact r_vretW hQ C hr hm hs hh dX6_init_17
def mX6_clear (h : MHp) (a0 : Nat) : Option (MHp) := (gR 7 1 h (some a0)).bind fun x1 => (mJ7_fill_53178 h x1 0).bind fun r2 => some r2
set_option maxRecDepth 100000 in
set_option maxHeartbeats 4000000 in
theorem c_X6_clear (l : Launch) (G : Env0) (h : MHp) (a0 : Nat) (res : MHp) (hh : mX6_clear h a0 = some res) : MG l yX6_clear cX6_clear 1 none 1 23 0 0 G h [.ref a0] (none) (res) := by
  refine MG_of (own := RX6) (plainFor_of_name (by decide)) rfl (Nat.le_of_ble_eq_true rfl) ?_
  intro p e s m args below meth c Q ls hQ C X hin hm hs hl hr
  have hl : lv_has ls 1 [(0, va_rf (some a0))] := hl
  unfold mX6_clear at hh
  refine r_aload_n C.1 C.2.1 dX6_clear_0 rfl (lv_at hl 0 rfl) ?_
  refine r_getR C hm flX6_9 dX6_clear_1 hh (fun x1 _ hh => ?_)
  refine lv_iconst (v := 0) C.1 C.2.1 dX6_clear_4 (by decide) ?_
  refine r_cS C X hm hs mlX6_19 msX6_19 hh (vv := fun r => none) (hp := fun r => r) (fun r hg => c_J7_fill_53178 l G h _ _ r hg) rfl rfl (Nat.le_of_ble_eq_true rfl) (Nat.le_of_ble_eq_true rfl) (Nat.le_of_ble_eq_true rfl) hl.1 dX6_clear_5 (fun r2 H locs hgr2 hh hm hs => ?_)
  refine W.eq (g2 := F0 m 8 ls []) rfl ?_
  exact r_vretW hQ C hr hm hs hh dX6_clear_8
def mX6_join (h : MHp) (a0 : Nat) (a1 : Int32) (a2 : Int32) (a3 : Int32) : Option (MHp) := (if ((a1 * 10) + a2) < 0 then some h else (gR 7 1 h (some a0)).bind fun x1 => (gN 20 h x1).bind fun x2 => (if x2 ≤ ((a1 * 10) + a2) then some h else (gR 7 1 h (some a0)).bind fun x3 => (pAI 20 h x3 ((a1 * 10) + a2) a3).bind fun h4 => some h4))
set_option maxRecDepth 100000 in
set_option maxHeartbeats 4000000 in
theorem c_X6_join (l : Launch) (G : Env0) (h : MHp) (a0 : Nat) (a1 : Int32) (a2 : Int32) (a3 : Int32) (res : MHp) (hh : mX6_join h a0 a1 a2 a3 = some res) : MG l yX6_join cX6_join 5 none 0 0 0 0 G h [.ref a0, .int a1, .int a2, .int a3] (none) (res) := by
  refine MG_of (own := RX6) (plainFor_of_name (by decide)) rfl (Nat.le_of_ble_eq_true rfl) ?_
  intro p e s m args below meth c Q ls hQ C X hin hm hs hl hr
  have hl : lv_has ls 5 [(0, va_rf (some a0)), (1, .int a1), (2, .int a2), (3, .int a3)] := hl
  unfold mX6_join at hh
  refine lv_iload_n C.1 C.2.1 dX6_join_0 rfl (lv_at hl 1 rfl) ?_
  refine lv_bipush (v := 10) C.1 C.2.1 dX6_join_1 (by decide) ?_
  refine lv_imul C.1 C.2.1 dX6_join_3 ?_
  refine lv_iload_n C.1 C.2.1 dX6_join_4 rfl (lv_at hl 2 rfl) ?_
  refine lv_iadd C.1 C.2.1 dX6_join_5 ?_
  refine lv_istore (i := 4) (lv' := [(4, .int ((a1 * 10) + a2)), (0, va_rf (some a0)), (1, .int a1), (2, .int a2), (3, .int a3)]) C.1 C.2.1 dX6_join_6 hl (by decide) rfl (fun ls hl => ?_)
  refine lv_iload C.1 C.2.1 dX6_join_8 (lv_at hl 0 rfl) ?_
  refine lv_if_lt (tgt := 31) C.1 C.2.1 dX6_join_10 (by decide) (fun c6 => ?_) (fun c6 => ?_)
  · rw [if_pos c6] at hh
    exact r_vretW hQ C hr hm hs hh dX6_join_31
  · rw [if_neg c6] at hh
    refine lv_iload C.1 C.2.1 dX6_join_13 (lv_at hl 0 rfl) ?_
    refine r_aload_n C.1 C.2.1 dX6_join_15 rfl (lv_at hl 1 rfl) ?_
    refine r_getR C hm flX6_9 dX6_join_16 hh (fun x1 _ hh => ?_)
    refine r_len C hm dX6_join_19 (kd := 20) (by decide) hh (fun x2 _ hh => ?_)
    refine lv_icmp_ge (tgt := 31) C.1 C.2.1 dX6_join_20 (by decide) (fun c5 => ?_) (fun c5 => ?_)
    · rw [if_pos c5] at hh
      exact r_vretW hQ C hr hm hs hh dX6_join_31
    · rw [if_neg c5] at hh
      refine r_aload_n C.1 C.2.1 dX6_join_23 rfl (lv_at hl 1 rfl) ?_
      refine r_getR C hm flX6_9 dX6_join_24 hh (fun x3 _ hh => ?_)
      refine lv_iload C.1 C.2.1 dX6_join_27 (lv_at hl 0 rfl) ?_
      refine lv_iload_n C.1 C.2.1 dX6_join_29 rfl (lv_at hl 4 rfl) ?_
      refine r_ast C hm hs dX6_join_30 hh (fun h4 H locs _ hh hm hs => ?_)
      exact r_vretW hQ C hr hm hs hh dX6_join_31
def mX6_groupOf (h : MHp) (a0 : Nat) (a1 : Int32) (a2 : Int32) : Option (Int32) := (if ((a1 * 10) + a2) < 0 then some (-1) else (gR 7 1 h (some a0)).bind fun x1 => (gN 20 h x1).bind fun x2 => (if x2 ≤ ((a1 * 10) + a2) then some (-1) else (gR 7 1 h (some a0)).bind fun x3 => (gAI 20 h x3 ((a1 * 10) + a2)).bind fun x4 => some x4))
set_option maxRecDepth 100000 in
set_option maxHeartbeats 4000000 in
theorem c_X6_groupOf (l : Launch) (G : Env0) (h : MHp) (a0 : Nat) (a1 : Int32) (a2 : Int32) (res : Int32) (hh : mX6_groupOf h a0 a1 a2 = some res) : MG l yX6_groupOf cX6_groupOf 4 (some .int) 0 0 0 0 G h [.ref a0, .int a1, .int a2] (some (.int res)) (h) := by
  refine MG_of (own := RX6) (plainFor_of_name (by decide)) rfl (Nat.le_of_ble_eq_true rfl) ?_
  intro p e s m args below meth c Q ls hQ C X hin hm hs hl hr
  have hl : lv_has ls 4 [(0, va_rf (some a0)), (1, .int a1), (2, .int a2)] := hl
  unfold mX6_groupOf at hh
  refine lv_iload_n C.1 C.2.1 dX6_groupOf_0 rfl (lv_at hl 1 rfl) ?_
  refine lv_bipush (v := 10) C.1 C.2.1 dX6_groupOf_1 (by decide) ?_
  refine lv_imul C.1 C.2.1 dX6_groupOf_3 ?_
  refine lv_iload_n C.1 C.2.1 dX6_groupOf_4 rfl (lv_at hl 2 rfl) ?_
  refine lv_iadd C.1 C.2.1 dX6_groupOf_5 ?_
  refine lv_istore_n (i := 3) (lv' := [(3, .int ((a1 * 10) + a2)), (0, va_rf (some a0)), (1, .int a1), (2, .int a2)]) C.1 C.2.1 dX6_groupOf_6 rfl hl (by decide) rfl (fun ls hl => ?_)
  refine lv_iload_n C.1 C.2.1 dX6_groupOf_7 rfl (lv_at hl 0 rfl) ?_
  refine lv_if_lt (tgt := 29) C.1 C.2.1 dX6_groupOf_8 (by decide) (fun c6 => ?_) (fun c6 => ?_)
  · rw [if_pos c6] at hh
    refine lv_iconst (v := (-1)) C.1 C.2.1 dX6_groupOf_29 (by decide) ?_
    exact r_iretP hQ C hr hm hs hh dX6_groupOf_30
  · rw [if_neg c6] at hh
    refine lv_iload_n C.1 C.2.1 dX6_groupOf_11 rfl (lv_at hl 0 rfl) ?_
    refine r_aload_n C.1 C.2.1 dX6_groupOf_12 rfl (lv_at hl 1 rfl) ?_
    refine r_getR C hm flX6_9 dX6_groupOf_13 hh (fun x1 _ hh => ?_)
    refine r_len C hm dX6_groupOf_16 (kd := 20) (by decide) hh (fun x2 _ hh => ?_)
    refine lv_icmp_ge (tgt := 29) C.1 C.2.1 dX6_groupOf_17 (by decide) (fun c5 => ?_) (fun c5 => ?_)
    · rw [if_pos c5] at hh
      refine lv_iconst (v := (-1)) C.1 C.2.1 dX6_groupOf_29 (by decide) ?_
      exact r_iretP hQ C hr hm hs hh dX6_groupOf_30
    · rw [if_neg c5] at hh
      refine r_aload_n C.1 C.2.1 dX6_groupOf_20 rfl (lv_at hl 1 rfl) ?_
      refine r_getR C hm flX6_9 dX6_groupOf_21 hh (fun x3 _ hh => ?_)
      refine lv_iload_n C.1 C.2.1 dX6_groupOf_24 rfl (lv_at hl 0 rfl) ?_
      refine r_ald C hm dX6_groupOf_25 hh (fun x4 _ hh => ?_)
      refine lv_goto (tgt := 30) C.1 C.2.1 dX6_groupOf_26 (by decide) ?_
      exact r_iretP hQ C hr hm hs hh dX6_groupOf_30
def mX6_survey_b177 (k32 : MHp → Nat → Option Nat → Int32 → Int32 → Option Nat → Int32 → Option (MHp)) (h : MHp) (a0 : Nat) (v1 : Option Nat) (v2 : Int32) (v3 : Int32) (v4 : Option Nat) (v5 : Int32) : Option (MHp) := k32 h a0 v1 v2 v3 v4 (v5 + 1)
def mX6_survey_b108 (k32 : MHp → Nat → Option Nat → Int32 → Int32 → Option Nat → Int32 → Option (MHp)) (h : MHp) (a0 : Nat) (v1 : Option Nat) (v2 : Int32) (v3 : Int32) (v4 : Option Nat) (v5 : Int32) (v6 : Int32) (t0 : Int32) : Option (MHp) := (if v6 = v3 then (gI 7 2 h (some a0)).bind fun x10 => (pI 7 2 h (some a0) (x10 + 1)).bind fun h11 => (gI 7 3 h11 (some a0)).bind fun x12 => (pI 7 3 h11 (some a0) (x12 + t0)).bind fun h13 => mX6_survey_b177 k32 h13 a0 v1 v2 v3 v4 v5 else (rcv 7 h (some a0)).bind fun b2 => (mX6_groupOf h b2 v2 v6).bind fun r1 => (rcv 7 h (some a0)).bind fun b4 => (mX6_groupOf h b4 v2 v3).bind fun r3 => (if r1 = r3 then (gI 7 4 h (some a0)).bind fun x5 => (pI 7 4 h (some a0) (x5 + 1)).bind fun h6 => (gI 7 5 h6 (some a0)).bind fun x7 => (pI 7 5 h6 (some a0) (x7 + t0)).bind fun h8 => mX6_survey_b177 k32 h8 a0 v1 v2 v3 v4 v5 else mX6_survey_b177 k32 h a0 v1 v2 v3 v4 v5))
def mX6_survey_b75 (k32 : MHp → Nat → Option Nat → Int32 → Int32 → Option Nat → Int32 → Option (MHp)) (h : MHp) (a0 : Nat) (v1 : Option Nat) (v2 : Int32) (v3 : Int32) (v4 : Option Nat) (v5 : Int32) (t0 : Int32) : Option (MHp) := (if t0 = (-1) then mX6_survey_b177 k32 h a0 v1 v2 v3 v4 v5 else (gR 8 0 h v1).bind fun x15 => (gR 7 0 h (some a0)).bind fun x16 => (gR 3 1 h x16).bind fun x17 => (rcv 11 h x15).bind fun b19 => (mX10_holds h b19 x17).bind fun r18 => (if r18 = 0 then mX6_survey_b108 k32 h a0 v1 v2 v3 v4 v5 t0 0 else mX6_survey_b108 k32 h a0 v1 v2 v3 v4 v5 t0 1))
def mX6_survey_l32 : Nat → MHp → Nat → Option Nat → Int32 → Int32 → Option Nat → Int32 → Option (MHp)
  | 0, _, _, _, _, _, _, _ => none
  | n + 1, h, a0, v1, v2, v3, v4, v5 => (gI 10 6 h v4).bind fun x22 => (if x22 ≤ v5 then some h else (gR 7 0 h (some a0)).bind fun x23 => (gI 10 7 h v4).bind fun x24 => (rcv 3 h x23).bind fun b26 => (mX2_looksAt h b26 v5 x24 0).bind fun r25 => (if r25.1 = 0 then mX6_survey_b75 (mX6_survey_l32 n) r25.2 a0 v1 v2 v3 v4 v5 (-1) else (gR 7 0 r25.2 (some a0)).bind fun x27 => (gR 3 1 r25.2 x27).bind fun x28 => (mX11_valueIn r25.2 x28 v2).bind fun r29 => mX6_survey_b75 (mX6_survey_l32 n) r25.2 a0 v1 v2 v3 v4 v5 r29))
def mX6_survey (h : MHp) (a0 : Nat) (a1 : Option Nat) (a2 : Int32) (a3 : Int32) : Option (MHp) := (pI 7 2 h (some a0) 0).bind fun h32 => (pI 7 3 h32 (some a0) 0).bind fun h33 => (pI 7 4 h33 (some a0) 0).bind fun h34 => (pI 7 5 h34 (some a0) 0).bind fun h35 => (gR 7 0 h35 (some a0)).bind fun x36 => (gR 3 0 h35 x36).bind fun x37 => mX6_survey_l32 FUEL h35 a0 a1 a2 a3 x37 0
set_option maxRecDepth 100000 in
set_option maxHeartbeats 4000000 in
theorem c_X6_survey (l : Launch) (G : Env0) (h : MHp) (a0 : Nat) (a1 : Option Nat) (a2 : Int32) (a3 : Int32) (res : MHp) (hh : mX6_survey h a0 a1 a2 a3 = some res) : MG l yX6_survey cX6_survey 8 none 4 96 0 0 G h [.ref a0, va_rf a1, .int a2, .int a3] (none) (res) := by
  refine MG_of (own := RX6) (plainFor_of_name (by decide)) rfl (by simp [lg_sl, va_cat, vc_i, vc_l, vc_r]) ?_
  intro p e s m args below meth c Q ls hQ C X hin hm hs hl hr
  have hl : lv_has ls 8 [(0, .ref a0), (1, va_rf a1), (2, .int a2), (3, .int a3)] := by simpa [lv_args, va_cat, vc_i, vc_l, vc_r] using hl
  have hl : lv_has ls 8 [(0, va_rf (some a0)), (1, va_rf a1), (2, .int a2), (3, .int a3)] := hl
  have B177 : ∀ (k32 : MHp → Nat → Option Nat → Int32 → Int32 → Option Nat → Int32 → Option (MHp)), (∀ (h : MHp) (H : Heap) (locs : List Loc) (ls : Array Slot) (a0 : Nat) (v1 : Option Nat) (v2 : Int32) (v3 : Int32) (v4 : Option Nat) (v5 : Int32) , mHp (gD G) (gC G) (gB G) h H → va_S (fun q => gB G ≤ q) s.heap H locs → lv_has ls 8 [(0, va_rf (some a0)), (1, va_rf v1), (2, .int v2), (3, .int v3), (4, va_rf v4), (5, .int v5)] → k32 h a0 v1 v2 v3 v4 v5 = some res → W p l e ({ frames := 4, cells := 0, slots := 0, locals := 96 }) s m args below meth c H locs 0 0 Q (F0 m 32 ls [])) → ∀ (h : MHp) (H : Heap) (locs : List Loc) (ls : Array Slot) (a0 : Nat) (v1 : Option Nat) (v2 : Int32) (v3 : Int32) (v4 : Option Nat) (v5 : Int32) , mHp (gD G) (gC G) (gB G) h H → va_S (fun q => gB G ≤ q) s.heap H locs → lv_has ls 8 [(0, va_rf (some a0)), (1, va_rf v1), (2, .int v2), (3, .int v3), (4, va_rf v4), (5, .int v5)] → mX6_survey_b177 k32 h a0 v1 v2 v3 v4 v5 = some res → W p l e ({ frames := 4, cells := 0, slots := 0, locals := 96 }) s m args below meth c H locs 0 0 Q (F0 m 177 ls []) := by
    intro k32 hk32 h H locs ls a0 v1 v2 v3 v4 v5 hm hs hl hh
    unfold mX6_survey_b177 at hh
    refine lv_iinc (v := (v5 + 1)) (lv' := [(5, .int (v5 + 1)), (0, va_rf (some a0)), (1, va_rf v1), (2, .int v2), (3, .int v3), (4, va_rf v4)]) C.1 C.2.1 dX6_survey_177 hl (k := 5) rfl rfl (by decide) (by simp [va_cat, vc_i, vc_l, vc_r]) (fun ls hl => ?_)
    refine lv_goto (tgt := 32) C.1 C.2.1 dX6_survey_180 (by decide) ?_
    exact hk32 _ _ _ _ _ _ _ _ _ _  hm hs (lv_sub hl [1, 2, 3, 4, 5, 0] rfl) hh
  have B108 : ∀ (k32 : MHp → Nat → Option Nat → Int32 → Int32 → Option Nat → Int32 → Option (MHp)), (∀ (h : MHp) (H : Heap) (locs : List Loc) (ls : Array Slot) (a0 : Nat) (v1 : Option Nat) (v2 : Int32) (v3 : Int32) (v4 : Option Nat) (v5 : Int32) , mHp (gD G) (gC G) (gB G) h H → va_S (fun q => gB G ≤ q) s.heap H locs → lv_has ls 8 [(0, va_rf (some a0)), (1, va_rf v1), (2, .int v2), (3, .int v3), (4, va_rf v4), (5, .int v5)] → k32 h a0 v1 v2 v3 v4 v5 = some res → W p l e ({ frames := 4, cells := 0, slots := 0, locals := 96 }) s m args below meth c H locs 0 0 Q (F0 m 32 ls [])) → ∀ (h : MHp) (H : Heap) (locs : List Loc) (ls : Array Slot) (a0 : Nat) (v1 : Option Nat) (v2 : Int32) (v3 : Int32) (v4 : Option Nat) (v5 : Int32) (v6 : Int32) (t0 : Int32) , mHp (gD G) (gC G) (gB G) h H → va_S (fun q => gB G ≤ q) s.heap H locs → lv_has ls 8 [(0, va_rf (some a0)), (1, va_rf v1), (2, .int v2), (3, .int v3), (4, va_rf v4), (5, .int v5), (6, .int v6)] → mX6_survey_b108 k32 h a0 v1 v2 v3 v4 v5 v6 t0 = some res → W p l e ({ frames := 4, cells := 0, slots := 0, locals := 96 }) s m args below meth c H locs 0 0 Q (F0 m 108 ls [.int t0]) := by
    intro k32 hk32 h H locs ls a0 v1 v2 v3 v4 v5 v6 t0 hm hs hl hh
    unfold mX6_survey_b108 at hh
    refine lv_istore (i := 7) (lv' := [(7, .int t0), (0, va_rf (some a0)), (1, va_rf v1), (2, .int v2), (3, .int v3), (4, va_rf v4), (5, .int v5), (6, .int v6)]) C.1 C.2.1 dX6_survey_108 hl (by decide) rfl (fun ls hl => ?_)
    refine lv_iload C.1 C.2.1 dX6_survey_110 (lv_at hl 7 rfl) ?_
    refine lv_iload_n C.1 C.2.1 dX6_survey_112 rfl (lv_at hl 4 rfl) ?_
    refine lv_icmp_ne (tgt := 140) C.1 C.2.1 dX6_survey_113 (by decide) (fun c14 => ?_) (fun c14 => ?_)
    · rw [if_neg c14] at hh
      refine r_aload_n C.1 C.2.1 dX6_survey_140 rfl (lv_at hl 1 rfl) ?_
      refine lv_iload_n C.1 C.2.1 dX6_survey_141 rfl (lv_at hl 3 rfl) ?_
      refine lv_iload C.1 C.2.1 dX6_survey_142 (lv_at hl 7 rfl) ?_
      refine r_cV C X hm hs mlX6_75 mvX6_75 hh (vv := fun r => some (.int r)) (hp := fun r => h) (fun b r hg => c_X6_groupOf l G h b _ _ r hg) rfl rfl (Nat.le_of_ble_eq_true rfl) (Nat.le_of_ble_eq_true rfl) (Nat.le_of_ble_eq_true rfl) hl.1 dX6_survey_144 (fun b2 r1 H locs hgr1 hh hm hs => ?_)
      refine W.eq (g2 := F0 m 147 ls [.int r1]) rfl ?_
      refine r_aload_n C.1 C.2.1 dX6_survey_147 rfl (lv_at hl 1 rfl) ?_
      refine lv_iload_n C.1 C.2.1 dX6_survey_148 rfl (lv_at hl 3 rfl) ?_
      refine lv_iload_n C.1 C.2.1 dX6_survey_149 rfl (lv_at hl 4 rfl) ?_
      refine r_cV C X hm hs mlX6_75 mvX6_75 hh (vv := fun r => some (.int r)) (hp := fun r => h) (fun b r hg => c_X6_groupOf l G h b _ _ r hg) rfl rfl (Nat.le_of_ble_eq_true rfl) (Nat.le_of_ble_eq_true rfl) (Nat.le_of_ble_eq_true rfl) hl.1 dX6_survey_150 (fun b4 r3 H locs hgr3 hh hm hs => ?_)
      refine W.eq (g2 := F0 m 153 ls [.int r3, .int r1]) rfl ?_
      refine lv_icmp_ne (tgt := 177) C.1 C.2.1 dX6_survey_153 (by decide) (fun c9 => ?_) (fun c9 => ?_)
      · rw [if_neg c9] at hh
        exact B177 _ hk32 _ _ _ _ _ _ _ _ _ _  hm hs (lv_sub hl [1, 2, 3, 4, 5, 6] rfl) hh
      · rw [if_pos c9] at hh
        refine r_aload_n C.1 C.2.1 dX6_survey_156 rfl (lv_at hl 1 rfl) ?_
        refine lv_dup C.1 C.2.1 dX6_survey_157 (va_cat _) ?_
        refine r_getI C hm flX6_32 dX6_survey_158 hh (fun x5 _ hh => ?_)
        refine lv_iconst (v := 1) C.1 C.2.1 dX6_survey_161 (by decide) ?_
        refine lv_iadd C.1 C.2.1 dX6_survey_162 ?_
        refine r_putI C hm hs flX6_32 (Or.inl fm_7_4) dX6_survey_163 hh (fun h6 H locs _ hh hm hs => ?_)
        refine r_aload_n C.1 C.2.1 dX6_survey_166 rfl (lv_at hl 1 rfl) ?_
        refine lv_dup C.1 C.2.1 dX6_survey_167 (va_cat _) ?_
        refine r_getI C hm flX6_35 dX6_survey_168 hh (fun x7 _ hh => ?_)
        refine lv_iload C.1 C.2.1 dX6_survey_171 (lv_at hl 0 rfl) ?_
        refine lv_iadd C.1 C.2.1 dX6_survey_173 ?_
        refine r_putI C hm hs flX6_35 (Or.inl fm_7_5) dX6_survey_174 hh (fun h8 H locs _ hh hm hs => ?_)
        exact B177 _ hk32 _ _ _ _ _ _ _ _ _ _  hm hs (lv_sub hl [1, 2, 3, 4, 5, 6] rfl) hh
    · rw [if_pos c14] at hh
      refine r_aload_n C.1 C.2.1 dX6_survey_116 rfl (lv_at hl 1 rfl) ?_
      refine lv_dup C.1 C.2.1 dX6_survey_117 (va_cat _) ?_
      refine r_getI C hm flX6_25 dX6_survey_118 hh (fun x10 _ hh => ?_)
      refine lv_iconst (v := 1) C.1 C.2.1 dX6_survey_121 (by decide) ?_
      refine lv_iadd C.1 C.2.1 dX6_survey_122 ?_
      refine r_putI C hm hs flX6_25 (Or.inl fm_7_2) dX6_survey_123 hh (fun h11 H locs _ hh hm hs => ?_)
      refine r_aload_n C.1 C.2.1 dX6_survey_126 rfl (lv_at hl 1 rfl) ?_
      refine lv_dup C.1 C.2.1 dX6_survey_127 (va_cat _) ?_
      refine r_getI C hm flX6_29 dX6_survey_128 hh (fun x12 _ hh => ?_)
      refine lv_iload C.1 C.2.1 dX6_survey_131 (lv_at hl 0 rfl) ?_
      refine lv_iadd C.1 C.2.1 dX6_survey_133 ?_
      refine r_putI C hm hs flX6_29 (Or.inl fm_7_3) dX6_survey_134 hh (fun h13 H locs _ hh hm hs => ?_)
      refine lv_goto (tgt := 177) C.1 C.2.1 dX6_survey_137 (by decide) ?_
      exact B177 _ hk32 _ _ _ _ _ _ _ _ _ _  hm hs (lv_sub hl [1, 2, 3, 4, 5, 6] rfl) hh
  have B75 : ∀ (k32 : MHp → Nat → Option Nat → Int32 → Int32 → Option Nat → Int32 → Option (MHp)), (∀ (h : MHp) (H : Heap) (locs : List Loc) (ls : Array Slot) (a0 : Nat) (v1 : Option Nat) (v2 : Int32) (v3 : Int32) (v4 : Option Nat) (v5 : Int32) , mHp (gD G) (gC G) (gB G) h H → va_S (fun q => gB G ≤ q) s.heap H locs → lv_has ls 8 [(0, va_rf (some a0)), (1, va_rf v1), (2, .int v2), (3, .int v3), (4, va_rf v4), (5, .int v5)] → k32 h a0 v1 v2 v3 v4 v5 = some res → W p l e ({ frames := 4, cells := 0, slots := 0, locals := 96 }) s m args below meth c H locs 0 0 Q (F0 m 32 ls [])) → ∀ (h : MHp) (H : Heap) (locs : List Loc) (ls : Array Slot) (a0 : Nat) (v1 : Option Nat) (v2 : Int32) (v3 : Int32) (v4 : Option Nat) (v5 : Int32) (t0 : Int32) , mHp (gD G) (gC G) (gB G) h H → va_S (fun q => gB G ≤ q) s.heap H locs → lv_has ls 8 [(0, va_rf (some a0)), (1, va_rf v1), (2, .int v2), (3, .int v3), (4, va_rf v4), (5, .int v5)] → mX6_survey_b75 k32 h a0 v1 v2 v3 v4 v5 t0 = some res → W p l e ({ frames := 4, cells := 0, slots := 0, locals := 96 }) s m args below meth c H locs 0 0 Q (F0 m 75 ls [.int t0]) := by
    intro k32 hk32 h H locs ls a0 v1 v2 v3 v4 v5 t0 hm hs hl hh
    unfold mX6_survey_b75 at hh
    refine lv_istore (i := 6) (lv' := [(6, .int t0), (0, va_rf (some a0)), (1, va_rf v1), (2, .int v2), (3, .int v3), (4, va_rf v4), (5, .int v5)]) C.1 C.2.1 dX6_survey_75 hl (by decide) rfl (fun ls hl => ?_)
    refine lv_iload C.1 C.2.1 dX6_survey_77 (lv_at hl 0 rfl) ?_
    refine lv_iconst (v := (-1)) C.1 C.2.1 dX6_survey_79 (by decide) ?_
    refine lv_icmp_ne (tgt := 86) C.1 C.2.1 dX6_survey_80 (by decide) (fun c21 => ?_) (fun c21 => ?_)
    · rw [if_neg c21] at hh
      refine r_aload_n C.1 C.2.1 dX6_survey_86 rfl (lv_at hl 2 rfl) ?_
      refine r_getR C hm flX6_63 dX6_survey_87 hh (fun x15 _ hh => ?_)
      refine r_aload_n C.1 C.2.1 dX6_survey_90 rfl (lv_at hl 1 rfl) ?_
      refine r_getR C hm flX6_15 dX6_survey_91 hh (fun x16 _ hh => ?_)
      refine r_getR C hm flX6_56 dX6_survey_94 hh (fun x17 _ hh => ?_)
      refine r_cV C X hm hs mlX6_69 mvX6_69 hh (vv := fun r => some (.int r)) (hp := fun r => h) (fun b r hg => c_X10_holds l G h b _ r hg) rfl rfl (Nat.le_of_ble_eq_true rfl) (Nat.le_of_ble_eq_true rfl) (Nat.le_of_ble_eq_true rfl) hl.1 dX6_survey_97 (fun b19 r18 H locs hgr18 hh hm hs => ?_)
      refine W.eq (g2 := F0 m 100 ls [.int r18]) rfl ?_
      refine lv_if_eq (tgt := 107) C.1 C.2.1 dX6_survey_100 (by decide) (fun c20 => ?_) (fun c20 => ?_)
      · rw [if_pos c20] at hh
        refine lv_iconst (v := 0) C.1 C.2.1 dX6_survey_107 (by decide) ?_
        exact B108 _ hk32 _ _ _ _ _ _ _ _ _ _ _ _  hm hs (lv_sub hl [1, 2, 3, 4, 5, 6, 0] rfl) hh
      · rw [if_neg c20] at hh
        refine lv_iconst (v := 1) C.1 C.2.1 dX6_survey_103 (by decide) ?_
        refine lv_goto (tgt := 108) C.1 C.2.1 dX6_survey_104 (by decide) ?_
        exact B108 _ hk32 _ _ _ _ _ _ _ _ _ _ _ _  hm hs (lv_sub hl [1, 2, 3, 4, 5, 6, 0] rfl) hh
    · rw [if_pos c21] at hh
      refine lv_goto (tgt := 177) C.1 C.2.1 dX6_survey_83 (by decide) ?_
      exact B177 _ hk32 _ _ _ _ _ _ _ _ _ _  hm hs (lv_sub hl [1, 2, 3, 4, 5, 6] rfl) hh
  have B32 : ∀ n : Nat, ∀ (h : MHp) (H : Heap) (locs : List Loc) (ls : Array Slot) (a0 : Nat) (v1 : Option Nat) (v2 : Int32) (v3 : Int32) (v4 : Option Nat) (v5 : Int32) , mHp (gD G) (gC G) (gB G) h H → va_S (fun q => gB G ≤ q) s.heap H locs → lv_has ls 8 [(0, va_rf (some a0)), (1, va_rf v1), (2, .int v2), (3, .int v3), (4, va_rf v4), (5, .int v5)] → mX6_survey_l32 n h a0 v1 v2 v3 v4 v5 = some res → W p l e ({ frames := 4, cells := 0, slots := 0, locals := 96 }) s m args below meth c H locs 0 0 Q (F0 m 32 ls []) := by
    intro n
    induction n with
    | zero => intro h H locs ls a0 v1 v2 v3 v4 v5 hm hs hl hh; cases hh
    | succ n ih =>
      intro h H locs ls a0 v1 v2 v3 v4 v5 hm hs hl hh
      unfold mX6_survey_l32 at hh
      refine lv_iload C.1 C.2.1 dX6_survey_32 (lv_at hl 5 rfl) ?_
      refine r_aload C.1 C.2.1 dX6_survey_34 (lv_at hl 4 rfl) ?_
      refine r_getI C hm flX6_44 dX6_survey_36 hh (fun x22 _ hh => ?_)
      refine lv_icmp_ge (tgt := 183) C.1 C.2.1 dX6_survey_39 (by decide) (fun c31 => ?_) (fun c31 => ?_)
      · rw [if_pos c31] at hh
        exact r_vretW hQ C hr hm hs hh dX6_survey_183
      · rw [if_neg c31] at hh
        refine r_aload_n C.1 C.2.1 dX6_survey_42 rfl (lv_at hl 0 rfl) ?_
        refine r_getR C hm flX6_15 dX6_survey_43 hh (fun x23 _ hh => ?_)
        refine lv_iload C.1 C.2.1 dX6_survey_46 (lv_at hl 5 rfl) ?_
        refine r_aload C.1 C.2.1 dX6_survey_48 (lv_at hl 4 rfl) ?_
        refine r_getI C hm flX6_49 dX6_survey_50 hh (fun x24 _ hh => ?_)
        refine lv_iconst (v := 0) C.1 C.2.1 dX6_survey_53 (by decide) ?_
        refine r_cV C X hm hs mlX6_52 mvX6_52 hh (vv := fun r => some (.int r.1)) (hp := fun r => r.2) (fun b r hg => c_X2_looksAt l G h b _ _ _ r hg) rfl rfl (Nat.le_of_ble_eq_true rfl) (Nat.le_of_ble_eq_true rfl) (Nat.le_of_ble_eq_true rfl) hl.1 dX6_survey_54 (fun b26 r25 H locs hgr25 hh hm hs => ?_)
        refine W.eq (g2 := F0 m 57 ls [.int r25.1]) rfl ?_
        refine lv_if_eq (tgt := 74) C.1 C.2.1 dX6_survey_57 (by decide) (fun c30 => ?_) (fun c30 => ?_)
        · rw [if_pos c30] at hh
          refine lv_iconst (v := (-1)) C.1 C.2.1 dX6_survey_74 (by decide) ?_
          exact B75 _ ih _ _ _ _ _ _ _ _ _ _ _  hm hs (lv_sub hl [0, 1, 2, 3, 4, 5] rfl) hh
        · rw [if_neg c30] at hh
          refine r_aload_n C.1 C.2.1 dX6_survey_60 rfl (lv_at hl 0 rfl) ?_
          refine r_getR C hm flX6_15 dX6_survey_61 hh (fun x27 _ hh => ?_)
          refine r_getR C hm flX6_56 dX6_survey_64 hh (fun x28 _ hh => ?_)
          refine lv_iload_n C.1 C.2.1 dX6_survey_67 rfl (lv_at hl 2 rfl) ?_
          refine r_cS C X hm hs mlX6_59 msX6_59 hh (vv := fun r => some (.int r)) (hp := fun r => r25.2) (fun r hg => c_X11_valueIn l G r25.2 _ _ r hg) rfl rfl (Nat.le_of_ble_eq_true rfl) (Nat.le_of_ble_eq_true rfl) (Nat.le_of_ble_eq_true rfl) hl.1 dX6_survey_68 (fun r29 H locs hgr29 hh hm hs => ?_)
          refine W.eq (g2 := F0 m 71 ls [.int r29]) rfl ?_
          refine lv_goto (tgt := 75) C.1 C.2.1 dX6_survey_71 (by decide) ?_
          exact B75 _ ih _ _ _ _ _ _ _ _ _ _ _  hm hs (lv_sub hl [0, 1, 2, 3, 4, 5] rfl) hh
  unfold mX6_survey at hh
  refine r_aload_n C.1 C.2.1 dX6_survey_0 rfl (lv_at hl 0 rfl) ?_
  refine lv_iconst (v := 0) C.1 C.2.1 dX6_survey_1 (by decide) ?_
  refine r_putI C hm hs flX6_25 (Or.inl fm_7_2) dX6_survey_2 hh (fun h32 H locs _ hh hm hs => ?_)
  refine r_aload_n C.1 C.2.1 dX6_survey_5 rfl (lv_at hl 0 rfl) ?_
  refine lv_iconst (v := 0) C.1 C.2.1 dX6_survey_6 (by decide) ?_
  refine r_putI C hm hs flX6_29 (Or.inl fm_7_3) dX6_survey_7 hh (fun h33 H locs _ hh hm hs => ?_)
  refine r_aload_n C.1 C.2.1 dX6_survey_10 rfl (lv_at hl 0 rfl) ?_
  refine lv_iconst (v := 0) C.1 C.2.1 dX6_survey_11 (by decide) ?_
  refine r_putI C hm hs flX6_32 (Or.inl fm_7_4) dX6_survey_12 hh (fun h34 H locs _ hh hm hs => ?_)
  refine r_aload_n C.1 C.2.1 dX6_survey_15 rfl (lv_at hl 0 rfl) ?_
  refine lv_iconst (v := 0) C.1 C.2.1 dX6_survey_16 (by decide) ?_
  refine r_putI C hm hs flX6_35 (Or.inl fm_7_5) dX6_survey_17 hh (fun h35 H locs _ hh hm hs => ?_)
  refine r_aload_n C.1 C.2.1 dX6_survey_20 rfl (lv_at hl 0 rfl) ?_
  refine r_getR C hm flX6_15 dX6_survey_21 hh (fun x36 _ hh => ?_)
  refine r_getR C hm flX6_38 dX6_survey_24 hh (fun x37 _ hh => ?_)
  refine r_astore (i := 4) (lv' := [(4, va_rf x37), (0, va_rf (some a0)), (1, va_rf a1), (2, .int a2), (3, .int a3)]) C.1 C.2.1 dX6_survey_27 hl (by decide) rfl (fun ls hl => ?_)
  refine lv_iconst (v := 0) C.1 C.2.1 dX6_survey_29 (by decide) ?_
  refine lv_istore (i := 5) (lv' := [(5, .int 0), (4, va_rf x37), (0, va_rf (some a0)), (1, va_rf a1), (2, .int a2), (3, .int a3)]) C.1 C.2.1 dX6_survey_30 hl (by decide) (by simp [va_cat, vc_i, vc_l, vc_r]) (fun ls hl => ?_)
  exact B32 FUEL _ _ _ _ _ _ _ _ _ _  hm hs (lv_sub hl [2, 3, 4, 5, 1, 0] rfl) hh
def mX6_thousandths (h : MHp) (a0 : Int32) (a1 : Int32) : Option (Int32) := (if a1 ≤ 0 then some 0 else (nz a1).bind fun _ => some ((a0 * 1000) / a1))
set_option maxRecDepth 100000 in
set_option maxHeartbeats 4000000 in
theorem c_X6_thousandths (l : Launch) (G : Env0) (h : MHp) (a0 : Int32) (a1 : Int32) (res : Int32) (hh : mX6_thousandths h a0 a1 = some res) : MG l yX6_thousandths cX6_thousandths 2 (some .int) 0 0 0 0 G h [.int a0, .int a1] (some (.int res)) (h) := by
  refine MG_of (own := RX6) (plainFor_of_name (by decide)) rfl (Nat.le_of_ble_eq_true rfl) ?_
  intro p e s m args below meth c Q ls hQ C X hin hm hs hl hr
  have hl : lv_has ls 2 [(0, .int a0), (1, .int a1)] := hl
  unfold mX6_thousandths at hh
  refine lv_iload_n C.1 C.2.1 dX6_thousandths_0 rfl (lv_at hl 1 rfl) ?_
  refine lv_if_le (tgt := 14) C.1 C.2.1 dX6_thousandths_1 (by decide) (fun c1 => ?_) (fun c1 => ?_)
  · rw [if_pos c1] at hh
    refine lv_iconst (v := 0) C.1 C.2.1 dX6_thousandths_14 (by decide) ?_
    exact r_iretP hQ C hr hm hs hh dX6_thousandths_15
  · rw [if_neg c1] at hh
    refine lv_iload_n C.1 C.2.1 dX6_thousandths_4 rfl (lv_at hl 0 rfl) ?_
    refine lv_sipush (v := 1000) C.1 C.2.1 dX6_thousandths_5 (by decide) ?_
    refine lv_imul C.1 C.2.1 dX6_thousandths_8 ?_
    refine lv_iload_n C.1 C.2.1 dX6_thousandths_9 rfl (lv_at hl 1 rfl) ?_
    refine r_idiv C dX6_thousandths_10 hh (fun _ hh => ?_)
    refine lv_goto (tgt := 15) C.1 C.2.1 dX6_thousandths_11 (by decide) ?_
    exact r_iretP hQ C hr hm hs hh dX6_thousandths_15
def mX6_own (h : MHp) (a0 : Nat) : Option (Int32) := (gI 7 3 h (some a0)).bind fun x1 => (gI 7 2 h (some a0)).bind fun x2 => (mX6_thousandths h x1 x2).bind fun r3 => some r3
set_option maxRecDepth 100000 in
set_option maxHeartbeats 4000000 in
theorem c_X6_own (l : Launch) (G : Env0) (h : MHp) (a0 : Nat) (res : Int32) (hh : mX6_own h a0 = some res) : MG l yX6_own cX6_own 1 (some .int) 1 21 0 0 G h [.ref a0] (some (.int res)) (h) := by
  refine MG_of (own := RX6) (plainFor_of_name (by decide)) rfl (Nat.le_of_ble_eq_true rfl) ?_
  intro p e s m args below meth c Q ls hQ C X hin hm hs hl hr
  have hl : lv_has ls 1 [(0, va_rf (some a0))] := hl
  unfold mX6_own at hh
  refine r_aload_n C.1 C.2.1 dX6_own_0 rfl (lv_at hl 0 rfl) ?_
  refine r_getI C hm flX6_29 dX6_own_1 hh (fun x1 _ hh => ?_)
  refine r_aload_n C.1 C.2.1 dX6_own_4 rfl (lv_at hl 0 rfl) ?_
  refine r_getI C hm flX6_25 dX6_own_5 hh (fun x2 _ hh => ?_)
  refine r_cS C X hm hs mlX6_79 msX6_79 hh (vv := fun r => some (.int r)) (hp := fun r => h) (fun r hg => c_X6_thousandths l G h _ _ r hg) rfl rfl (Nat.le_of_ble_eq_true rfl) (Nat.le_of_ble_eq_true rfl) (Nat.le_of_ble_eq_true rfl) hl.1 dX6_own_8 (fun r3 H locs hgr3 hh hm hs => ?_)
  refine W.eq (g2 := F0 m 11 ls [.int r3]) rfl ?_
  exact r_iretP hQ C hr hm hs hh dX6_own_11
def mX6_like (h : MHp) (a0 : Nat) : Option (Int32) := (gI 7 5 h (some a0)).bind fun x1 => (gI 7 4 h (some a0)).bind fun x2 => (mX6_thousandths h x1 x2).bind fun r3 => some r3
set_option maxRecDepth 100000 in
set_option maxHeartbeats 4000000 in
theorem c_X6_like (l : Launch) (G : Env0) (h : MHp) (a0 : Nat) (res : Int32) (hh : mX6_like h a0 = some res) : MG l yX6_like cX6_like 1 (some .int) 1 21 0 0 G h [.ref a0] (some (.int res)) (h) := by
  refine MG_of (own := RX6) (plainFor_of_name (by decide)) rfl (Nat.le_of_ble_eq_true rfl) ?_
  intro p e s m args below meth c Q ls hQ C X hin hm hs hl hr
  have hl : lv_has ls 1 [(0, va_rf (some a0))] := hl
  unfold mX6_like at hh
  refine r_aload_n C.1 C.2.1 dX6_like_0 rfl (lv_at hl 0 rfl) ?_
  refine r_getI C hm flX6_35 dX6_like_1 hh (fun x1 _ hh => ?_)
  refine r_aload_n C.1 C.2.1 dX6_like_4 rfl (lv_at hl 0 rfl) ?_
  refine r_getI C hm flX6_32 dX6_like_5 hh (fun x2 _ hh => ?_)
  refine r_cS C X hm hs mlX6_79 msX6_79 hh (vv := fun r => some (.int r)) (hp := fun r => h) (fun r hg => c_X6_thousandths l G h _ _ r hg) rfl rfl (Nat.le_of_ble_eq_true rfl) (Nat.le_of_ble_eq_true rfl) (Nat.le_of_ble_eq_true rfl) hl.1 dX6_like_8 (fun r3 H locs hgr3 hh hm hs => ?_)
  refine W.eq (g2 := F0 m 11 ls [.int r3]) rfl ?_
  exact r_iretP hQ C hr hm hs hh dX6_like_11
def mX6_part (h : MHp) (a0 : Nat) (a1 : Int32) : Option (Int32) := (gI 7 2 h (some a0)).bind fun x1 => (gI 7 2 h (some a0)).bind fun x2 => (mX6_thousandths h x1 (x2 + a1)).bind fun r3 => some r3
set_option maxRecDepth 100000 in
set_option maxHeartbeats 4000000 in
theorem c_X6_part (l : Launch) (G : Env0) (h : MHp) (a0 : Nat) (a1 : Int32) (res : Int32) (hh : mX6_part h a0 a1 = some res) : MG l yX6_part cX6_part 2 (some .int) 1 21 0 0 G h [.ref a0, .int a1] (some (.int res)) (h) := by
  refine MG_of (own := RX6) (plainFor_of_name (by decide)) rfl (Nat.le_of_ble_eq_true rfl) ?_
  intro p e s m args below meth c Q ls hQ C X hin hm hs hl hr
  have hl : lv_has ls 2 [(0, va_rf (some a0)), (1, .int a1)] := hl
  unfold mX6_part at hh
  refine r_aload_n C.1 C.2.1 dX6_part_0 rfl (lv_at hl 0 rfl) ?_
  refine r_getI C hm flX6_25 dX6_part_1 hh (fun x1 _ hh => ?_)
  refine r_aload_n C.1 C.2.1 dX6_part_4 rfl (lv_at hl 0 rfl) ?_
  refine r_getI C hm flX6_25 dX6_part_5 hh (fun x2 _ hh => ?_)
  refine lv_iload_n C.1 C.2.1 dX6_part_8 rfl (lv_at hl 1 rfl) ?_
  refine lv_iadd C.1 C.2.1 dX6_part_9 ?_
  refine r_cS C X hm hs mlX6_79 msX6_79 hh (vv := fun r => some (.int r)) (hp := fun r => h) (fun r hg => c_X6_thousandths l G h _ _ r hg) rfl rfl (Nat.le_of_ble_eq_true rfl) (Nat.le_of_ble_eq_true rfl) (Nat.le_of_ble_eq_true rfl) hl.1 dX6_part_10 (fun r3 H locs hgr3 hh hm hs => ?_)
  refine W.eq (g2 := F0 m 13 ls [.int r3]) rfl ?_
  exact r_iretP hQ C hr hm hs hh dX6_part_13
def mX6_joined (h : MHp) (a0 : Nat) (a1 : Int32) : Option (Int32) := (rcv 7 h (some a0)).bind fun b2 => (mX6_own h b2).bind fun r1 => (rcv 7 h (some a0)).bind fun b4 => (mX6_part h b4 a1).bind fun r3 => (rcv 7 h (some a0)).bind fun b6 => (mX6_like h b6).bind fun r5 => (rcv 7 h (some a0)).bind fun b8 => (mX6_part h b8 a1).bind fun r7 => some (((r1 * r3) + (r5 * (1000 - r7))) / 1000)
set_option maxRecDepth 100000 in
set_option maxHeartbeats 4000000 in
theorem c_X6_joined (l : Launch) (G : Env0) (h : MHp) (a0 : Nat) (a1 : Int32) (res : Int32) (hh : mX6_joined h a0 a1 = some res) : MG l yX6_joined cX6_joined 2 (some .int) 2 42 0 0 G h [.ref a0, .int a1] (some (.int res)) (h) := by
  refine MG_of (own := RX6) (plainFor_of_name (by decide)) rfl (Nat.le_of_ble_eq_true rfl) ?_
  intro p e s m args below meth c Q ls hQ C X hin hm hs hl hr
  have hl : lv_has ls 2 [(0, va_rf (some a0)), (1, .int a1)] := hl
  unfold mX6_joined at hh
  refine r_aload_n C.1 C.2.1 dX6_joined_0 rfl (lv_at hl 0 rfl) ?_
  refine r_cV C X hm hs mlX6_82 mvX6_82 hh (vv := fun r => some (.int r)) (hp := fun r => h) (fun b r hg => c_X6_own l G h b  r hg) rfl rfl (Nat.le_of_ble_eq_true rfl) (Nat.le_of_ble_eq_true rfl) (Nat.le_of_ble_eq_true rfl) hl.1 dX6_joined_1 (fun b2 r1 H locs hgr1 hh hm hs => ?_)
  refine W.eq (g2 := F0 m 4 ls [.int r1]) rfl ?_
  refine r_aload_n C.1 C.2.1 dX6_joined_4 rfl (lv_at hl 0 rfl) ?_
  refine lv_iload_n C.1 C.2.1 dX6_joined_5 rfl (lv_at hl 1 rfl) ?_
  refine r_cV C X hm hs mlX6_86 mvX6_86 hh (vv := fun r => some (.int r)) (hp := fun r => h) (fun b r hg => c_X6_part l G h b _ r hg) rfl rfl (Nat.le_of_ble_eq_true rfl) (Nat.le_of_ble_eq_true rfl) (Nat.le_of_ble_eq_true rfl) hl.1 dX6_joined_6 (fun b4 r3 H locs hgr3 hh hm hs => ?_)
  refine W.eq (g2 := F0 m 9 ls [.int r3, .int r1]) rfl ?_
  refine lv_imul C.1 C.2.1 dX6_joined_9 ?_
  refine r_aload_n C.1 C.2.1 dX6_joined_10 rfl (lv_at hl 0 rfl) ?_
  refine r_cV C X hm hs mlX6_90 mvX6_90 hh (vv := fun r => some (.int r)) (hp := fun r => h) (fun b r hg => c_X6_like l G h b  r hg) rfl rfl (Nat.le_of_ble_eq_true rfl) (Nat.le_of_ble_eq_true rfl) (Nat.le_of_ble_eq_true rfl) hl.1 dX6_joined_11 (fun b6 r5 H locs hgr5 hh hm hs => ?_)
  refine W.eq (g2 := F0 m 14 ls [.int r5, .int (r1 * r3)]) rfl ?_
  refine lv_sipush (v := 1000) C.1 C.2.1 dX6_joined_14 (by decide) ?_
  refine r_aload_n C.1 C.2.1 dX6_joined_17 rfl (lv_at hl 0 rfl) ?_
  refine lv_iload_n C.1 C.2.1 dX6_joined_18 rfl (lv_at hl 1 rfl) ?_
  refine r_cV C X hm hs mlX6_86 mvX6_86 hh (vv := fun r => some (.int r)) (hp := fun r => h) (fun b r hg => c_X6_part l G h b _ r hg) rfl rfl (Nat.le_of_ble_eq_true rfl) (Nat.le_of_ble_eq_true rfl) (Nat.le_of_ble_eq_true rfl) hl.1 dX6_joined_19 (fun b8 r7 H locs hgr7 hh hm hs => ?_)
  refine W.eq (g2 := F0 m 22 ls [.int r7, .int 1000, .int r5, .int (r1 * r3)]) rfl ?_
  refine lv_isub C.1 C.2.1 dX6_joined_22 ?_
  refine lv_imul C.1 C.2.1 dX6_joined_23 ?_
  refine lv_iadd C.1 C.2.1 dX6_joined_24 ?_
  refine lv_sipush (v := 1000) C.1 C.2.1 dX6_joined_25 (by decide) ?_
  refine lv_idiv C.1 C.2.1 dX6_joined_28 (by decide) ?_
  exact r_iretP hQ C hr hm hs hh dX6_joined_29

def mX7_init (h : MHp) (a0 : Nat) : Option (MHp) := (some (nO h 11 5)).bind fun h1 => (mX10_init h1 (hS h)).bind fun r2 => (pR 8 0 r2 (some a0) (some (hS h))).bind fun h4 => (some (nA h4 21 100)).bind fun h5 => (pR 8 1 h5 (some a0) (some (hS h4))).bind fun h6 => (some (nA h6 21 100)).bind fun h7 => (pR 8 2 h7 (some a0) (some (hS h6))).bind fun h8 => some h8
set_option maxRecDepth 100000 in
set_option maxHeartbeats 4000000 in
theorem c_X7_init (l : Launch) (G : Env0) (h : MHp) (a0 : Nat) (res : MHp) (hh : mX7_init h a0 = some res) : MG l yX7_init cX7_init 1 none 2 32 6 241 G h [.ref a0] (none) (res) := by
  refine MG_of (own := RX7) (plainFor_of_name (by decide)) rfl (Nat.le_of_ble_eq_true rfl) ?_
  intro p e s m args below meth c Q ls hQ C X hin hm hs hl hr
  have hl : lv_has ls 1 [(0, va_rf (some a0))] := hl
  unfold mX7_init at hh
  refine r_aload_n C.1 C.2.1 dX7_init_0 rfl (lv_at hl 0 rfl) ?_
  refine r_objInit C (in_tbl q_209 rfl) (in_tbl q_37 rfl) (in_tbl q_38 rfl) hl.1 dX7_init_1 (Nat.le_of_ble_eq_true rfl) (Nat.le_of_ble_eq_true rfl) ?_
  refine r_aload_n C.1 C.2.1 dX7_init_4 rfl (lv_at hl 0 rfl) ?_
  refine r_newG C hm hs nlX7_9 (Nat.le_of_ble_eq_true rfl) (Nat.le_of_ble_eq_true rfl) dX7_init_5 hh (fun h1 H hh hm hs => ?_)
  refine lv_dup C.1 C.2.1 dX7_init_8 (va_cat _) ?_
  refine r_cC C X hm hs mlX7_11 mcX7_11 hh (hp := fun r => r) (fun r hg => c_X10_init l G h1 _  r hg) rfl rfl (by simp [va_cat, vc_i, vc_l, vc_r]) (Nat.le_of_ble_eq_true rfl) (Nat.le_of_ble_eq_true rfl) ⟨(Nat.le_of_ble_eq_true rfl), (Nat.le_of_ble_eq_true rfl)⟩ hl.1 dX7_init_9 (fun r2 H locs hgr2 hh hm hs => ?_)
  refine r_putR C hm hs flX7_12 (Or.inr ⟨ffX7_12, hin rfl⟩) dX7_init_12 hh (fun h4 H locs _ hh hm hs => ?_)
  refine r_aload_n C.1 C.2.1 dX7_init_15 rfl (lv_at hl 0 rfl) ?_
  refine lv_bipush (v := 100) C.1 C.2.1 dX7_init_16 (by decide) ?_
  refine r_newaG C hm hs (kd := 21) (w := 8) (by decide) aw21 dX7_init_18 (N := 100) (by decide) (by decide) (by decide) hh (Nat.le_of_ble_eq_true rfl) (Nat.le_of_ble_eq_true rfl) (fun h5 H hh hm hs => ?_)
  refine r_putR C hm hs flX7_18 (Or.inr ⟨ffX7_18, hin rfl⟩) dX7_init_20 hh (fun h6 H locs _ hh hm hs => ?_)
  refine r_aload_n C.1 C.2.1 dX7_init_23 rfl (lv_at hl 0 rfl) ?_
  refine lv_bipush (v := 100) C.1 C.2.1 dX7_init_24 (by decide) ?_
  refine r_newaG C hm hs (kd := 21) (w := 8) (by decide) aw21 dX7_init_26 (N := 100) (by decide) (by decide) (by decide) hh (Nat.le_of_ble_eq_true rfl) (Nat.le_of_ble_eq_true rfl) (fun h7 H hh hm hs => ?_)
  refine r_putR C hm hs flX7_22 (Or.inr ⟨ffX7_22, hin rfl⟩) dX7_init_28 hh (fun h8 H locs _ hh hm hs => ?_)
  refine W.widen (k := 6) (n := 241) (by omega) (by omega) ?_
  exact r_vretW hQ C hr hm hs hh dX7_init_31
def mX7_clear (h : MHp) (a0 : Nat) : Option (MHp) := (gR 8 0 h (some a0)).bind fun x1 => (rcv 11 h x1).bind fun b3 => (mX10_clear h b3).bind fun r2 => (gR 8 2 r2 (some a0)).bind fun x4 => (mJ7_fill_d0a16 r2 x4 (-1)).bind fun r5 => (pI 8 3 r5 (some a0) (-1)).bind fun h6 => (pI 8 4 h6 (some a0) (-1)).bind fun h7 => (pI 8 5 h7 (some a0) (-1)).bind fun h8 => (pI 8 6 h8 (some a0) 1).bind fun h9 => (pI 8 7 h9 (some a0) 1).bind fun h10 => some h10
set_option maxRecDepth 100000 in
set_option maxHeartbeats 4000000 in
theorem c_X7_clear (l : Launch) (G : Env0) (h : MHp) (a0 : Nat) (res : MHp) (hh : mX7_clear h a0 = some res) : MG l yX7_clear cX7_clear 1 none 1 24 0 0 G h [.ref a0] (none) (res) := by
  refine MG_of (own := RX7) (plainFor_of_name (by decide)) rfl (Nat.le_of_ble_eq_true rfl) ?_
  intro p e s m args below meth c Q ls hQ C X hin hm hs hl hr
  have hl : lv_has ls 1 [(0, va_rf (some a0))] := hl
  unfold mX7_clear at hh
  refine r_aload_n C.1 C.2.1 dX7_clear_0 rfl (lv_at hl 0 rfl) ?_
  refine r_getR C hm flX7_12 dX7_clear_1 hh (fun x1 _ hh => ?_)
  refine r_cV C X hm hs mlX7_25 mvX7_25 hh (vv := fun r => none) (hp := fun r => r) (fun b r hg => c_X10_clear l G h b  r hg) rfl rfl (Nat.le_of_ble_eq_true rfl) (Nat.le_of_ble_eq_true rfl) (Nat.le_of_ble_eq_true rfl) hl.1 dX7_clear_4 (fun b3 r2 H locs hgr2 hh hm hs => ?_)
  refine W.eq (g2 := F0 m 7 ls []) rfl ?_
  refine r_aload_n C.1 C.2.1 dX7_clear_7 rfl (lv_at hl 0 rfl) ?_
  refine r_getR C hm flX7_22 dX7_clear_8 hh (fun x4 _ hh => ?_)
  refine lv_ldc2 (v := (-1)) C.1 C.2.1 C.2.2.2.1 (C.2.2.2.2.1 _ (in_tbl q_619 rfl)) dX7_clear_11 ?_
  refine r_cS C X hm hs mlX7_30 msX7_30 hh (vv := fun r => none) (hp := fun r => r) (fun r hg => c_J7_fill_d0a16 l G r2 _ _ r hg) rfl rfl (Nat.le_of_ble_eq_true rfl) (Nat.le_of_ble_eq_true rfl) (Nat.le_of_ble_eq_true rfl) hl.1 dX7_clear_14 (fun r5 H locs hgr5 hh hm hs => ?_)
  refine W.eq (g2 := F0 m 17 ls []) rfl ?_
  refine r_aload_n C.1 C.2.1 dX7_clear_17 rfl (lv_at hl 0 rfl) ?_
  refine lv_iconst (v := (-1)) C.1 C.2.1 dX7_clear_18 (by decide) ?_
  refine r_putI C hm hs flX7_36 (Or.inl fm_8_3) dX7_clear_19 hh (fun h6 H locs _ hh hm hs => ?_)
  refine r_aload_n C.1 C.2.1 dX7_clear_22 rfl (lv_at hl 0 rfl) ?_
  refine lv_iconst (v := (-1)) C.1 C.2.1 dX7_clear_23 (by decide) ?_
  refine r_putI C hm hs flX7_40 (Or.inl fm_8_4) dX7_clear_24 hh (fun h7 H locs _ hh hm hs => ?_)
  refine r_aload_n C.1 C.2.1 dX7_clear_27 rfl (lv_at hl 0 rfl) ?_
  refine lv_iconst (v := (-1)) C.1 C.2.1 dX7_clear_28 (by decide) ?_
  refine r_putI C hm hs flX7_43 (Or.inl fm_8_5) dX7_clear_29 hh (fun h8 H locs _ hh hm hs => ?_)
  refine r_aload_n C.1 C.2.1 dX7_clear_32 rfl (lv_at hl 0 rfl) ?_
  refine lv_iconst (v := 1) C.1 C.2.1 dX7_clear_33 (by decide) ?_
  refine r_putI C hm hs flX7_46 (Or.inl fm_8_6) dX7_clear_34 hh (fun h9 H locs _ hh hm hs => ?_)
  refine r_aload_n C.1 C.2.1 dX7_clear_37 rfl (lv_at hl 0 rfl) ?_
  refine lv_iconst (v := 1) C.1 C.2.1 dX7_clear_38 (by decide) ?_
  refine r_putI C hm hs flX7_49 (Or.inl fm_8_7) dX7_clear_39 hh (fun h10 H locs _ hh hm hs => ?_)
  exact r_vretW hQ C hr hm hs hh dX7_clear_42
def mX7_by (h : MHp) (a0 : Nat) (a1 : Int32) (a2 : Int32) : Option (MHp) := (pI 8 4 h (some a0) a1).bind fun h1 => (pI 8 6 h1 (some a0) (a2 + 1)).bind fun h2 => some h2
set_option maxRecDepth 100000 in
set_option maxHeartbeats 4000000 in
theorem c_X7_by (l : Launch) (G : Env0) (h : MHp) (a0 : Nat) (a1 : Int32) (a2 : Int32) (res : MHp) (hh : mX7_by h a0 a1 a2 = some res) : MG l yX7_by cX7_by 3 none 0 0 0 0 G h [.ref a0, .int a1, .int a2] (none) (res) := by
  refine MG_of (own := RX7) (plainFor_of_name (by decide)) rfl (Nat.le_of_ble_eq_true rfl) ?_
  intro p e s m args below meth c Q ls hQ C X hin hm hs hl hr
  have hl : lv_has ls 3 [(0, va_rf (some a0)), (1, .int a1), (2, .int a2)] := hl
  unfold mX7_by at hh
  refine r_aload_n C.1 C.2.1 dX7_by_0 rfl (lv_at hl 0 rfl) ?_
  refine lv_iload_n C.1 C.2.1 dX7_by_1 rfl (lv_at hl 1 rfl) ?_
  refine r_putI C hm hs flX7_40 (Or.inl fm_8_4) dX7_by_2 hh (fun h1 H locs _ hh hm hs => ?_)
  refine r_aload_n C.1 C.2.1 dX7_by_5 rfl (lv_at hl 0 rfl) ?_
  refine lv_iload_n C.1 C.2.1 dX7_by_6 rfl (lv_at hl 2 rfl) ?_
  refine lv_iconst (v := 1) C.1 C.2.1 dX7_by_7 (by decide) ?_
  refine lv_iadd C.1 C.2.1 dX7_by_8 ?_
  refine r_putI C hm hs flX7_46 (Or.inl fm_8_6) dX7_by_9 hh (fun h2 H locs _ hh hm hs => ?_)
  exact r_vretW hQ C hr hm hs hh dX7_by_12
def mX7_andBy (h : MHp) (a0 : Nat) (a1 : Int32) (a2 : Int32) : Option (MHp) := (pI 8 5 h (some a0) a1).bind fun h1 => (pI 8 7 h1 (some a0) (a2 + 1)).bind fun h2 => some h2
set_option maxRecDepth 100000 in
set_option maxHeartbeats 4000000 in
theorem c_X7_andBy (l : Launch) (G : Env0) (h : MHp) (a0 : Nat) (a1 : Int32) (a2 : Int32) (res : MHp) (hh : mX7_andBy h a0 a1 a2 = some res) : MG l yX7_andBy cX7_andBy 3 none 0 0 0 0 G h [.ref a0, .int a1, .int a2] (none) (res) := by
  refine MG_of (own := RX7) (plainFor_of_name (by decide)) rfl (Nat.le_of_ble_eq_true rfl) ?_
  intro p e s m args below meth c Q ls hQ C X hin hm hs hl hr
  have hl : lv_has ls 3 [(0, va_rf (some a0)), (1, .int a1), (2, .int a2)] := hl
  unfold mX7_andBy at hh
  refine r_aload_n C.1 C.2.1 dX7_andBy_0 rfl (lv_at hl 0 rfl) ?_
  refine lv_iload_n C.1 C.2.1 dX7_andBy_1 rfl (lv_at hl 1 rfl) ?_
  refine r_putI C hm hs flX7_43 (Or.inl fm_8_5) dX7_andBy_2 hh (fun h1 H locs _ hh hm hs => ?_)
  refine r_aload_n C.1 C.2.1 dX7_andBy_5 rfl (lv_at hl 0 rfl) ?_
  refine lv_iload_n C.1 C.2.1 dX7_andBy_6 rfl (lv_at hl 2 rfl) ?_
  refine lv_iconst (v := 1) C.1 C.2.1 dX7_andBy_7 (by decide) ?_
  refine lv_iadd C.1 C.2.1 dX7_andBy_8 ?_
  refine r_putI C hm hs flX7_49 (Or.inl fm_8_7) dX7_andBy_9 hh (fun h2 H locs _ hh hm hs => ?_)
  exact r_vretW hQ C hr hm hs hh dX7_andBy_12
def mX7_cells (h : MHp) (a0 : Nat) : Option (Int32) := (gI 8 6 h (some a0)).bind fun x1 => (gI 8 7 h (some a0)).bind fun x2 => some (x1 * x2)
set_option maxRecDepth 100000 in
set_option maxHeartbeats 4000000 in
theorem c_X7_cells (l : Launch) (G : Env0) (h : MHp) (a0 : Nat) (res : Int32) (hh : mX7_cells h a0 = some res) : MG l yX7_cells cX7_cells 1 (some .int) 0 0 0 0 G h [.ref a0] (some (.int res)) (h) := by
  refine MG_of (own := RX7) (plainFor_of_name (by decide)) rfl (Nat.le_of_ble_eq_true rfl) ?_
  intro p e s m args below meth c Q ls hQ C X hin hm hs hl hr
  have hl : lv_has ls 1 [(0, va_rf (some a0))] := hl
  unfold mX7_cells at hh
  refine r_aload_n C.1 C.2.1 dX7_cells_0 rfl (lv_at hl 0 rfl) ?_
  refine r_getI C hm flX7_46 dX7_cells_1 hh (fun x1 _ hh => ?_)
  refine r_aload_n C.1 C.2.1 dX7_cells_4 rfl (lv_at hl 0 rfl) ?_
  refine r_getI C hm flX7_49 dX7_cells_5 hh (fun x2 _ hh => ?_)
  refine lv_imul C.1 C.2.1 dX7_cells_8 ?_
  exact r_iretP hQ C hr hm hs hh dX7_cells_9
def mX7_hasCell (h : MHp) (a0 : Nat) (a1 : Int32) (a2 : Int32) : Option (Int32) := (if a1 < 0 then some 0 else (gI 8 6 h (some a0)).bind fun x1 => (if x1 ≤ a1 then some 0 else (if a2 < 0 then some 0 else (gI 8 7 h (some a0)).bind fun x2 => (if x2 ≤ a2 then some 0 else some 1))))
set_option maxRecDepth 100000 in
set_option maxHeartbeats 4000000 in
theorem c_X7_hasCell (l : Launch) (G : Env0) (h : MHp) (a0 : Nat) (a1 : Int32) (a2 : Int32) (res : Int32) (hh : mX7_hasCell h a0 a1 a2 = some res) : MG l yX7_hasCell cX7_hasCell 3 (some .boolean) 0 0 0 0 G h [.ref a0, .int a1, .int a2] (some (.int res)) (h) := by
  refine MG_of (own := RX7) (plainFor_of_name (by decide)) rfl (Nat.le_of_ble_eq_true rfl) ?_
  intro p e s m args below meth c Q ls hQ C X hin hm hs hl hr
  have hl : lv_has ls 3 [(0, va_rf (some a0)), (1, .int a1), (2, .int a2)] := hl
  unfold mX7_hasCell at hh
  refine lv_iload_n C.1 C.2.1 dX7_hasCell_0 rfl (lv_at hl 1 rfl) ?_
  refine lv_if_lt (tgt := 28) C.1 C.2.1 dX7_hasCell_1 (by decide) (fun c6 => ?_) (fun c6 => ?_)
  · rw [if_pos c6] at hh
    refine lv_iconst (v := 0) C.1 C.2.1 dX7_hasCell_28 (by decide) ?_
    exact r_bretP hQ C hr hm hs (by decide) hh dX7_hasCell_29
  · rw [if_neg c6] at hh
    refine lv_iload_n C.1 C.2.1 dX7_hasCell_4 rfl (lv_at hl 1 rfl) ?_
    refine r_aload_n C.1 C.2.1 dX7_hasCell_5 rfl (lv_at hl 0 rfl) ?_
    refine r_getI C hm flX7_46 dX7_hasCell_6 hh (fun x1 _ hh => ?_)
    refine lv_icmp_ge (tgt := 28) C.1 C.2.1 dX7_hasCell_9 (by decide) (fun c5 => ?_) (fun c5 => ?_)
    · rw [if_pos c5] at hh
      refine lv_iconst (v := 0) C.1 C.2.1 dX7_hasCell_28 (by decide) ?_
      exact r_bretP hQ C hr hm hs (by decide) hh dX7_hasCell_29
    · rw [if_neg c5] at hh
      refine lv_iload_n C.1 C.2.1 dX7_hasCell_12 rfl (lv_at hl 2 rfl) ?_
      refine lv_if_lt (tgt := 28) C.1 C.2.1 dX7_hasCell_13 (by decide) (fun c4 => ?_) (fun c4 => ?_)
      · rw [if_pos c4] at hh
        refine lv_iconst (v := 0) C.1 C.2.1 dX7_hasCell_28 (by decide) ?_
        exact r_bretP hQ C hr hm hs (by decide) hh dX7_hasCell_29
      · rw [if_neg c4] at hh
        refine lv_iload_n C.1 C.2.1 dX7_hasCell_16 rfl (lv_at hl 2 rfl) ?_
        refine r_aload_n C.1 C.2.1 dX7_hasCell_17 rfl (lv_at hl 0 rfl) ?_
        refine r_getI C hm flX7_49 dX7_hasCell_18 hh (fun x2 _ hh => ?_)
        refine lv_icmp_ge (tgt := 28) C.1 C.2.1 dX7_hasCell_21 (by decide) (fun c3 => ?_) (fun c3 => ?_)
        · rw [if_pos c3] at hh
          refine lv_iconst (v := 0) C.1 C.2.1 dX7_hasCell_28 (by decide) ?_
          exact r_bretP hQ C hr hm hs (by decide) hh dX7_hasCell_29
        · rw [if_neg c3] at hh
          refine lv_iconst (v := 1) C.1 C.2.1 dX7_hasCell_24 (by decide) ?_
          refine lv_goto (tgt := 29) C.1 C.2.1 dX7_hasCell_25 (by decide) ?_
          exact r_bretP hQ C hr hm hs (by decide) hh dX7_hasCell_29
def mX7_cellAt (h : MHp) (a0 : Nat) (a1 : Int32) (a2 : Int32) : Option (Int32) := (gI 8 7 h (some a0)).bind fun x1 => some ((a1 * x1) + a2)
set_option maxRecDepth 100000 in
set_option maxHeartbeats 4000000 in
theorem c_X7_cellAt (l : Launch) (G : Env0) (h : MHp) (a0 : Nat) (a1 : Int32) (a2 : Int32) (res : Int32) (hh : mX7_cellAt h a0 a1 a2 = some res) : MG l yX7_cellAt cX7_cellAt 3 (some .int) 0 0 0 0 G h [.ref a0, .int a1, .int a2] (some (.int res)) (h) := by
  refine MG_of (own := RX7) (plainFor_of_name (by decide)) rfl (Nat.le_of_ble_eq_true rfl) ?_
  intro p e s m args below meth c Q ls hQ C X hin hm hs hl hr
  have hl : lv_has ls 3 [(0, va_rf (some a0)), (1, .int a1), (2, .int a2)] := hl
  unfold mX7_cellAt at hh
  refine lv_iload_n C.1 C.2.1 dX7_cellAt_0 rfl (lv_at hl 1 rfl) ?_
  refine r_aload_n C.1 C.2.1 dX7_cellAt_1 rfl (lv_at hl 0 rfl) ?_
  refine r_getI C hm flX7_49 dX7_cellAt_2 hh (fun x1 _ hh => ?_)
  refine lv_imul C.1 C.2.1 dX7_cellAt_5 ?_
  refine lv_iload_n C.1 C.2.1 dX7_cellAt_6 rfl (lv_at hl 2 rfl) ?_
  refine lv_iadd C.1 C.2.1 dX7_cellAt_7 ?_
  exact r_iretP hQ C hr hm hs hh dX7_cellAt_8
def mX7_cellOf_b71 (h : MHp) (a0 : Nat) (v1 : Option Nat) (v2 : Int32) (v3 : Int32) : Option (Int32) := (gR 8 0 h (some a0)).bind fun x1 => (rcv 11 h x1).bind fun b3 => (mX10_holds h b3 v1).bind fun r2 => (if r2 = 0 then some (-1) else (rcv 8 h (some a0)).bind fun b5 => (mX7_cellAt h b5 v2 v3).bind fun r4 => some r4)
def mX7_cellOf_b41 (h : MHp) (a0 : Nat) (v1 : Option Nat) (v2 : Int32) (t0 : Int32) : Option (Int32) := (rcv 8 h (some a0)).bind fun b8 => (mX7_hasCell h b8 v2 t0).bind fun r7 => (if r7 = 0 then some (-1) else (gI 8 3 h (some a0)).bind fun x9 => (if x9 = (-1) then mX7_cellOf_b71 h a0 v1 v2 t0 else (gI 8 3 h (some a0)).bind fun x10 => (mX11_valueIn h v1 x10).bind fun r11 => (if r11 = (-1) then some (-1) else mX7_cellOf_b71 h a0 v1 v2 t0)))
def mX7_cellOf_b20 (h : MHp) (a0 : Nat) (v1 : Option Nat) (t0 : Int32) : Option (Int32) := (gI 8 5 h (some a0)).bind fun x15 => (if x15 = (-1) then mX7_cellOf_b41 h a0 v1 t0 0 else (gI 8 5 h (some a0)).bind fun x16 => (mX11_valueIn h v1 x16).bind fun r17 => mX7_cellOf_b41 h a0 v1 t0 r17)
def mX7_cellOf (h : MHp) (a0 : Nat) (a1 : Option Nat) : Option (Int32) := (gI 8 4 h (some a0)).bind fun x19 => (if x19 = (-1) then mX7_cellOf_b20 h a0 a1 0 else (gI 8 4 h (some a0)).bind fun x20 => (mX11_valueIn h a1 x20).bind fun r21 => mX7_cellOf_b20 h a0 a1 r21)
set_option maxRecDepth 100000 in
set_option maxHeartbeats 4000000 in
theorem c_X7_cellOf (l : Launch) (G : Env0) (h : MHp) (a0 : Nat) (a1 : Option Nat) (res : Int32) (hh : mX7_cellOf h a0 a1 = some res) : MG l yX7_cellOf cX7_cellOf 4 (some .int) 2 46 0 0 G h [.ref a0, va_rf a1] (some (.int res)) (h) := by
  refine MG_of (own := RX7) (plainFor_of_name (by decide)) rfl (by simp [lg_sl, va_cat, vc_i, vc_l, vc_r]) ?_
  intro p e s m args below meth c Q ls hQ C X hin hm hs hl hr
  have hl : lv_has ls 4 [(0, .ref a0), (1, va_rf a1)] := by simpa [lv_args, va_cat, vc_i, vc_l, vc_r] using hl
  have hl : lv_has ls 4 [(0, va_rf (some a0)), (1, va_rf a1)] := hl
  have B71 : ∀ (H : Heap) (locs : List Loc) (ls : Array Slot) (a0 : Nat) (v1 : Option Nat) (v2 : Int32) (v3 : Int32) , mHp (gD G) (gC G) (gB G) h H → va_S (fun q => gB G ≤ q) s.heap H locs → lv_has ls 4 [(0, va_rf (some a0)), (1, va_rf v1), (2, .int v2), (3, .int v3)] → mX7_cellOf_b71 h a0 v1 v2 v3 = some res → W p l e ({ frames := 2, cells := 0, slots := 0, locals := 46 }) s m args below meth c H locs 0 0 Q (F0 m 71 ls []) := by
    intro H locs ls a0 v1 v2 v3 hm hs hl hh
    unfold mX7_cellOf_b71 at hh
    refine r_aload_n C.1 C.2.1 dX7_cellOf_71 rfl (lv_at hl 0 rfl) ?_
    refine r_getR C hm flX7_12 dX7_cellOf_72 hh (fun x1 _ hh => ?_)
    refine r_aload_n C.1 C.2.1 dX7_cellOf_75 rfl (lv_at hl 1 rfl) ?_
    refine r_cV C X hm hs mlX7_60 mvX7_60 hh (vv := fun r => some (.int r)) (hp := fun r => h) (fun b r hg => c_X10_holds l G h b _ r hg) rfl rfl (Nat.le_of_ble_eq_true rfl) (Nat.le_of_ble_eq_true rfl) (Nat.le_of_ble_eq_true rfl) hl.1 dX7_cellOf_76 (fun b3 r2 H locs hgr2 hh hm hs => ?_)
    refine W.eq (g2 := F0 m 79 ls [.int r2]) rfl ?_
    refine lv_if_ne (tgt := 84) C.1 C.2.1 dX7_cellOf_79 (by decide) (fun c6 => ?_) (fun c6 => ?_)
    · rw [if_neg c6] at hh
      refine r_aload_n C.1 C.2.1 dX7_cellOf_84 rfl (lv_at hl 0 rfl) ?_
      refine lv_iload_n C.1 C.2.1 dX7_cellOf_85 rfl (lv_at hl 2 rfl) ?_
      refine lv_iload_n C.1 C.2.1 dX7_cellOf_86 rfl (lv_at hl 3 rfl) ?_
      refine r_cV C X hm hs mlX7_64 mvX7_64 hh (vv := fun r => some (.int r)) (hp := fun r => h) (fun b r hg => c_X7_cellAt l G h b _ _ r hg) rfl rfl (Nat.le_of_ble_eq_true rfl) (Nat.le_of_ble_eq_true rfl) (Nat.le_of_ble_eq_true rfl) hl.1 dX7_cellOf_87 (fun b5 r4 H locs hgr4 hh hm hs => ?_)
      refine W.eq (g2 := F0 m 90 ls [.int r4]) rfl ?_
      exact r_iretP hQ C hr hm hs hh dX7_cellOf_90
    · rw [if_pos c6] at hh
      refine lv_iconst (v := (-1)) C.1 C.2.1 dX7_cellOf_82 (by decide) ?_
      exact r_iretP hQ C hr hm hs hh dX7_cellOf_83
  have B41 : ∀ (H : Heap) (locs : List Loc) (ls : Array Slot) (a0 : Nat) (v1 : Option Nat) (v2 : Int32) (t0 : Int32) , mHp (gD G) (gC G) (gB G) h H → va_S (fun q => gB G ≤ q) s.heap H locs → lv_has ls 4 [(0, va_rf (some a0)), (1, va_rf v1), (2, .int v2)] → mX7_cellOf_b41 h a0 v1 v2 t0 = some res → W p l e ({ frames := 2, cells := 0, slots := 0, locals := 46 }) s m args below meth c H locs 0 0 Q (F0 m 41 ls [.int t0]) := by
    intro H locs ls a0 v1 v2 t0 hm hs hl hh
    unfold mX7_cellOf_b41 at hh
    refine lv_istore_n (i := 3) (lv' := [(3, .int t0), (0, va_rf (some a0)), (1, va_rf v1), (2, .int v2)]) C.1 C.2.1 dX7_cellOf_41 rfl hl (by decide) rfl (fun ls hl => ?_)
    refine r_aload_n C.1 C.2.1 dX7_cellOf_42 rfl (lv_at hl 1 rfl) ?_
    refine lv_iload_n C.1 C.2.1 dX7_cellOf_43 rfl (lv_at hl 3 rfl) ?_
    refine lv_iload_n C.1 C.2.1 dX7_cellOf_44 rfl (lv_at hl 0 rfl) ?_
    refine r_cV C X hm hs mlX7_56 mvX7_56 hh (vv := fun r => some (.int r)) (hp := fun r => h) (fun b r hg => c_X7_hasCell l G h b _ _ r hg) rfl rfl (Nat.le_of_ble_eq_true rfl) (Nat.le_of_ble_eq_true rfl) (Nat.le_of_ble_eq_true rfl) hl.1 dX7_cellOf_45 (fun b8 r7 H locs hgr7 hh hm hs => ?_)
    refine W.eq (g2 := F0 m 48 ls [.int r7]) rfl ?_
    refine lv_if_eq (tgt := 82) C.1 C.2.1 dX7_cellOf_48 (by decide) (fun c14 => ?_) (fun c14 => ?_)
    · rw [if_pos c14] at hh
      refine lv_iconst (v := (-1)) C.1 C.2.1 dX7_cellOf_82 (by decide) ?_
      exact r_iretP hQ C hr hm hs hh dX7_cellOf_83
    · rw [if_neg c14] at hh
      refine r_aload_n C.1 C.2.1 dX7_cellOf_51 rfl (lv_at hl 1 rfl) ?_
      refine r_getI C hm flX7_36 dX7_cellOf_52 hh (fun x9 _ hh => ?_)
      refine lv_iconst (v := (-1)) C.1 C.2.1 dX7_cellOf_55 (by decide) ?_
      refine lv_icmp_eq (tgt := 71) C.1 C.2.1 dX7_cellOf_56 (by decide) (fun c13 => ?_) (fun c13 => ?_)
      · rw [if_pos c13] at hh
        exact B71 _ _ _ _ _ _ _  hm hs (lv_sub hl [1, 2, 3, 0] rfl) hh
      · rw [if_neg c13] at hh
        refine r_aload_n C.1 C.2.1 dX7_cellOf_59 rfl (lv_at hl 2 rfl) ?_
        refine r_aload_n C.1 C.2.1 dX7_cellOf_60 rfl (lv_at hl 1 rfl) ?_
        refine r_getI C hm flX7_36 dX7_cellOf_61 hh (fun x10 _ hh => ?_)
        refine r_cS C X hm hs mlX7_52 msX7_52 hh (vv := fun r => some (.int r)) (hp := fun r => h) (fun r hg => c_X11_valueIn l G h _ _ r hg) rfl rfl (Nat.le_of_ble_eq_true rfl) (Nat.le_of_ble_eq_true rfl) (Nat.le_of_ble_eq_true rfl) hl.1 dX7_cellOf_64 (fun r11 H locs hgr11 hh hm hs => ?_)
        refine W.eq (g2 := F0 m 67 ls [.int r11]) rfl ?_
        refine lv_iconst (v := (-1)) C.1 C.2.1 dX7_cellOf_67 (by decide) ?_
        refine lv_icmp_eq (tgt := 82) C.1 C.2.1 dX7_cellOf_68 (by decide) (fun c12 => ?_) (fun c12 => ?_)
        · rw [if_pos c12] at hh
          refine lv_iconst (v := (-1)) C.1 C.2.1 dX7_cellOf_82 (by decide) ?_
          exact r_iretP hQ C hr hm hs hh dX7_cellOf_83
        · rw [if_neg c12] at hh
          exact B71 _ _ _ _ _ _ _  hm hs (lv_sub hl [1, 2, 3, 0] rfl) hh
  have B20 : ∀ (H : Heap) (locs : List Loc) (ls : Array Slot) (a0 : Nat) (v1 : Option Nat) (t0 : Int32) , mHp (gD G) (gC G) (gB G) h H → va_S (fun q => gB G ≤ q) s.heap H locs → lv_has ls 4 [(0, va_rf (some a0)), (1, va_rf v1)] → mX7_cellOf_b20 h a0 v1 t0 = some res → W p l e ({ frames := 2, cells := 0, slots := 0, locals := 46 }) s m args below meth c H locs 0 0 Q (F0 m 20 ls [.int t0]) := by
    intro H locs ls a0 v1 t0 hm hs hl hh
    unfold mX7_cellOf_b20 at hh
    refine lv_istore_n (i := 2) (lv' := [(2, .int t0), (0, va_rf (some a0)), (1, va_rf v1)]) C.1 C.2.1 dX7_cellOf_20 rfl hl (by decide) (by simp [va_cat, vc_i, vc_l, vc_r]) (fun ls hl => ?_)
    refine r_aload_n C.1 C.2.1 dX7_cellOf_21 rfl (lv_at hl 1 rfl) ?_
    refine r_getI C hm flX7_43 dX7_cellOf_22 hh (fun x15 _ hh => ?_)
    refine lv_iconst (v := (-1)) C.1 C.2.1 dX7_cellOf_25 (by decide) ?_
    refine lv_icmp_ne (tgt := 33) C.1 C.2.1 dX7_cellOf_26 (by decide) (fun c18 => ?_) (fun c18 => ?_)
    · rw [if_neg c18] at hh
      refine r_aload_n C.1 C.2.1 dX7_cellOf_33 rfl (lv_at hl 2 rfl) ?_
      refine r_aload_n C.1 C.2.1 dX7_cellOf_34 rfl (lv_at hl 1 rfl) ?_
      refine r_getI C hm flX7_43 dX7_cellOf_35 hh (fun x16 _ hh => ?_)
      refine r_cS C X hm hs mlX7_52 msX7_52 hh (vv := fun r => some (.int r)) (hp := fun r => h) (fun r hg => c_X11_valueIn l G h _ _ r hg) rfl rfl (Nat.le_of_ble_eq_true rfl) (Nat.le_of_ble_eq_true rfl) (Nat.le_of_ble_eq_true rfl) hl.1 dX7_cellOf_38 (fun r17 H locs hgr17 hh hm hs => ?_)
      refine W.eq (g2 := F0 m 41 ls [.int r17]) rfl ?_
      exact B41 _ _ _ _ _ _ _  hm hs (lv_sub hl [1, 2, 0] rfl) hh
    · rw [if_pos c18] at hh
      refine lv_iconst (v := 0) C.1 C.2.1 dX7_cellOf_29 (by decide) ?_
      refine lv_goto (tgt := 41) C.1 C.2.1 dX7_cellOf_30 (by decide) ?_
      exact B41 _ _ _ _ _ _ _  hm hs (lv_sub hl [1, 2, 0] rfl) hh
  unfold mX7_cellOf at hh
  refine r_aload_n C.1 C.2.1 dX7_cellOf_0 rfl (lv_at hl 0 rfl) ?_
  refine r_getI C hm flX7_40 dX7_cellOf_1 hh (fun x19 _ hh => ?_)
  refine lv_iconst (v := (-1)) C.1 C.2.1 dX7_cellOf_4 (by decide) ?_
  refine lv_icmp_ne (tgt := 12) C.1 C.2.1 dX7_cellOf_5 (by decide) (fun c22 => ?_) (fun c22 => ?_)
  · rw [if_neg c22] at hh
    refine r_aload_n C.1 C.2.1 dX7_cellOf_12 rfl (lv_at hl 1 rfl) ?_
    refine r_aload_n C.1 C.2.1 dX7_cellOf_13 rfl (lv_at hl 0 rfl) ?_
    refine r_getI C hm flX7_40 dX7_cellOf_14 hh (fun x20 _ hh => ?_)
    refine r_cS C X hm hs mlX7_52 msX7_52 hh (vv := fun r => some (.int r)) (hp := fun r => h) (fun r hg => c_X11_valueIn l G h _ _ r hg) rfl rfl (Nat.le_of_ble_eq_true rfl) (Nat.le_of_ble_eq_true rfl) (Nat.le_of_ble_eq_true rfl) hl.1 dX7_cellOf_17 (fun r21 H locs hgr21 hh hm hs => ?_)
    refine W.eq (g2 := F0 m 20 ls [.int r21]) rfl ?_
    exact B20 _ _ _ _ _ _  hm hs (lv_sub hl [0, 1] rfl) hh
  · rw [if_pos c22] at hh
    refine lv_iconst (v := 0) C.1 C.2.1 dX7_cellOf_8 (by decide) ?_
    refine lv_goto (tgt := 20) C.1 C.2.1 dX7_cellOf_9 (by decide) ?_
    exact B20 _ _ _ _ _ _  hm hs (lv_sub hl [0, 1] rfl) hh
def mX7_timesOf (h : MHp) (a0 : Nat) (a1 : Option Nat) : Option (Int32) := (gI 8 3 h (some a0)).bind fun x1 => (if x1 = (-1) then some 1 else (gI 8 3 h (some a0)).bind fun x2 => (mX11_valueIn h a1 x2).bind fun r3 => some r3)
set_option maxRecDepth 100000 in
set_option maxHeartbeats 4000000 in
theorem c_X7_timesOf (l : Launch) (G : Env0) (h : MHp) (a0 : Nat) (a1 : Option Nat) (res : Int32) (hh : mX7_timesOf h a0 a1 = some res) : MG l yX7_timesOf cX7_timesOf 2 (some .int) 1 21 0 0 G h [.ref a0, va_rf a1] (some (.int res)) (h) := by
  refine MG_of (own := RX7) (plainFor_of_name (by decide)) rfl (by simp [lg_sl, va_cat, vc_i, vc_l, vc_r]) ?_
  intro p e s m args below meth c Q ls hQ C X hin hm hs hl hr
  have hl : lv_has ls 2 [(0, .ref a0), (1, va_rf a1)] := by simpa [lv_args, va_cat, vc_i, vc_l, vc_r] using hl
  have hl : lv_has ls 2 [(0, va_rf (some a0)), (1, va_rf a1)] := hl
  unfold mX7_timesOf at hh
  refine r_aload_n C.1 C.2.1 dX7_timesOf_0 rfl (lv_at hl 0 rfl) ?_
  refine r_getI C hm flX7_36 dX7_timesOf_1 hh (fun x1 _ hh => ?_)
  refine lv_iconst (v := (-1)) C.1 C.2.1 dX7_timesOf_4 (by decide) ?_
  refine lv_icmp_ne (tgt := 12) C.1 C.2.1 dX7_timesOf_5 (by decide) (fun c4 => ?_) (fun c4 => ?_)
  · rw [if_neg c4] at hh
    refine r_aload_n C.1 C.2.1 dX7_timesOf_12 rfl (lv_at hl 1 rfl) ?_
    refine r_aload_n C.1 C.2.1 dX7_timesOf_13 rfl (lv_at hl 0 rfl) ?_
    refine r_getI C hm flX7_36 dX7_timesOf_14 hh (fun x2 _ hh => ?_)
    refine r_cS C X hm hs mlX7_52 msX7_52 hh (vv := fun r => some (.int r)) (hp := fun r => h) (fun r hg => c_X11_valueIn l G h _ _ r hg) rfl rfl (Nat.le_of_ble_eq_true rfl) (Nat.le_of_ble_eq_true rfl) (Nat.le_of_ble_eq_true rfl) hl.1 dX7_timesOf_17 (fun r3 H locs hgr3 hh hm hs => ?_)
    refine W.eq (g2 := F0 m 20 ls [.int r3]) rfl ?_
    exact r_iretP hQ C hr hm hs hh dX7_timesOf_20
  · rw [if_pos c4] at hh
    refine lv_iconst (v := 1) C.1 C.2.1 dX7_timesOf_8 (by decide) ?_
    refine lv_goto (tgt := 20) C.1 C.2.1 dX7_timesOf_9 (by decide) ?_
    exact r_iretP hQ C hr hm hs hh dX7_timesOf_20
def mX7_isGuarded (h : MHp) (a0 : Nat) : Option (Int32) := (gI 8 3 h (some a0)).bind fun x1 => (if x1 = (-1) then (gI 8 5 h (some a0)).bind fun x2 => (if x2 = (-1) then some 0 else (rcv 8 h (some a0)).bind fun b4 => (mX7_cells h b4).bind fun r3 => (if 60 < r3 then some 0 else some 1)) else some 0)
set_option maxRecDepth 100000 in
set_option maxHeartbeats 4000000 in
theorem c_X7_isGuarded (l : Launch) (G : Env0) (h : MHp) (a0 : Nat) (res : Int32) (hh : mX7_isGuarded h a0 = some res) : MG l yX7_isGuarded cX7_isGuarded 1 (some .boolean) 1 20 0 0 G h [.ref a0] (some (.int res)) (h) := by
  refine MG_of (own := RX7) (plainFor_of_name (by decide)) rfl (Nat.le_of_ble_eq_true rfl) ?_
  intro p e s m args below meth c Q ls hQ C X hin hm hs hl hr
  have hl : lv_has ls 1 [(0, va_rf (some a0))] := hl
  unfold mX7_isGuarded at hh
  refine r_aload_n C.1 C.2.1 dX7_isGuarded_0 rfl (lv_at hl 0 rfl) ?_
  refine r_getI C hm flX7_36 dX7_isGuarded_1 hh (fun x1 _ hh => ?_)
  refine lv_iconst (v := (-1)) C.1 C.2.1 dX7_isGuarded_4 (by decide) ?_
  refine lv_icmp_ne (tgt := 29) C.1 C.2.1 dX7_isGuarded_5 (by decide) (fun c7 => ?_) (fun c7 => ?_)
  · rw [if_neg c7] at hh
    refine lv_iconst (v := 0) C.1 C.2.1 dX7_isGuarded_29 (by decide) ?_
    exact r_bretP hQ C hr hm hs (by decide) hh dX7_isGuarded_30
  · rw [if_pos c7] at hh
    refine r_aload_n C.1 C.2.1 dX7_isGuarded_8 rfl (lv_at hl 0 rfl) ?_
    refine r_getI C hm flX7_43 dX7_isGuarded_9 hh (fun x2 _ hh => ?_)
    refine lv_iconst (v := (-1)) C.1 C.2.1 dX7_isGuarded_12 (by decide) ?_
    refine lv_icmp_eq (tgt := 29) C.1 C.2.1 dX7_isGuarded_13 (by decide) (fun c6 => ?_) (fun c6 => ?_)
    · rw [if_pos c6] at hh
      refine lv_iconst (v := 0) C.1 C.2.1 dX7_isGuarded_29 (by decide) ?_
      exact r_bretP hQ C hr hm hs (by decide) hh dX7_isGuarded_30
    · rw [if_neg c6] at hh
      refine r_aload_n C.1 C.2.1 dX7_isGuarded_16 rfl (lv_at hl 0 rfl) ?_
      refine r_cV C X hm hs mlX7_68 mvX7_68 hh (vv := fun r => some (.int r)) (hp := fun r => h) (fun b r hg => c_X7_cells l G h b  r hg) rfl rfl (Nat.le_of_ble_eq_true rfl) (Nat.le_of_ble_eq_true rfl) (Nat.le_of_ble_eq_true rfl) hl.1 dX7_isGuarded_17 (fun b4 r3 H locs hgr3 hh hm hs => ?_)
      refine W.eq (g2 := F0 m 20 ls [.int r3]) rfl ?_
      refine lv_bipush (v := 60) C.1 C.2.1 dX7_isGuarded_20 (by decide) ?_
      refine lv_icmp_gt (tgt := 29) C.1 C.2.1 dX7_isGuarded_22 (by decide) (fun c5 => ?_) (fun c5 => ?_)
      · rw [if_pos c5] at hh
        refine lv_iconst (v := 0) C.1 C.2.1 dX7_isGuarded_29 (by decide) ?_
        exact r_bretP hQ C hr hm hs (by decide) hh dX7_isGuarded_30
      · rw [if_neg c5] at hh
        refine lv_iconst (v := 1) C.1 C.2.1 dX7_isGuarded_25 (by decide) ?_
        refine lv_goto (tgt := 30) C.1 C.2.1 dX7_isGuarded_26 (by decide) ?_
        exact r_bretP hQ C hr hm hs (by decide) hh dX7_isGuarded_30
def mX7_hasBits (h : MHp) (a0 : Nat) (a1 : Int64) : Option (Int32) := (rcv 8 h (some a0)).bind fun b2 => (mX7_cells h b2).bind fun r1 => (if 60 < r1 then some 0 else (rcv 8 h (some a0)).bind fun b4 => (mX7_cells h b4).bind fun r3 => (if (lg_cmp ((a1.toUInt64 >>> (r3.toInt64.toUInt64 &&& Int64.toUInt64 63)).toInt64) 0) = 0 then some 1 else some 0))
set_option maxRecDepth 100000 in
set_option maxHeartbeats 4000000 in
theorem c_X7_hasBits (l : Launch) (G : Env0) (h : MHp) (a0 : Nat) (a1 : Int64) (res : Int32) (hh : mX7_hasBits h a0 a1 = some res) : MG l yX7_hasBits cX7_hasBits 3 (some .boolean) 1 20 0 0 G h [.ref a0, .long a1] (some (.int res)) (h) := by
  refine MG_of (own := RX7) (plainFor_of_name (by decide)) rfl (Nat.le_of_ble_eq_true rfl) ?_
  intro p e s m args below meth c Q ls hQ C X hin hm hs hl hr
  have hl : lv_has ls 3 [(0, va_rf (some a0)), (1, .long a1)] := hl
  unfold mX7_hasBits at hh
  refine r_aload_n C.1 C.2.1 dX7_hasBits_0 rfl (lv_at hl 0 rfl) ?_
  refine r_cV C X hm hs mlX7_68 mvX7_68 hh (vv := fun r => some (.int r)) (hp := fun r => h) (fun b r hg => c_X7_cells l G h b  r hg) rfl rfl (Nat.le_of_ble_eq_true rfl) (Nat.le_of_ble_eq_true rfl) (Nat.le_of_ble_eq_true rfl) hl.1 dX7_hasBits_1 (fun b2 r1 H locs hgr1 hh hm hs => ?_)
  refine W.eq (g2 := F0 m 4 ls [.int r1]) rfl ?_
  refine lv_bipush (v := 60) C.1 C.2.1 dX7_hasBits_4 (by decide) ?_
  refine lv_icmp_gt (tgt := 24) C.1 C.2.1 dX7_hasBits_6 (by decide) (fun c6 => ?_) (fun c6 => ?_)
  · rw [if_pos c6] at hh
    refine lv_iconst (v := 0) C.1 C.2.1 dX7_hasBits_24 (by decide) ?_
    exact r_bretP hQ C hr hm hs (by decide) hh dX7_hasBits_25
  · rw [if_neg c6] at hh
    refine lv_lload_n C.1 C.2.1 dX7_hasBits_9 rfl (lv_at hl 1 rfl) ?_
    refine r_aload_n C.1 C.2.1 dX7_hasBits_10 rfl (lv_at hl 0 rfl) ?_
    refine r_cV C X hm hs mlX7_68 mvX7_68 hh (vv := fun r => some (.int r)) (hp := fun r => h) (fun b r hg => c_X7_cells l G h b  r hg) rfl rfl (Nat.le_of_ble_eq_true rfl) (Nat.le_of_ble_eq_true rfl) (Nat.le_of_ble_eq_true rfl) hl.1 dX7_hasBits_11 (fun b4 r3 H locs hgr3 hh hm hs => ?_)
    refine W.eq (g2 := F0 m 14 ls [.int r3, .long a1]) rfl ?_
    refine lv_lushr (v := (a1.toUInt64 >>> (r3.toInt64.toUInt64 &&& Int64.toUInt64 63)).toInt64) C.1 C.2.1 dX7_hasBits_14 rfl ?_
    refine lv_lconst (v := 0) C.1 C.2.1 dX7_hasBits_15 (by decide) ?_
    refine W.lcmp C.1 C.2.1 dX7_hasBits_16 ?_
    refine lv_if_ne (tgt := 24) C.1 C.2.1 dX7_hasBits_17 (by decide) (fun c5 => ?_) (fun c5 => ?_)
    · rw [if_neg c5] at hh
      refine lv_iconst (v := 0) C.1 C.2.1 dX7_hasBits_24 (by decide) ?_
      exact r_bretP hQ C hr hm hs (by decide) hh dX7_hasBits_25
    · rw [if_pos c5] at hh
      refine lv_iconst (v := 1) C.1 C.2.1 dX7_hasBits_20 (by decide) ?_
      refine lv_goto (tgt := 25) C.1 C.2.1 dX7_hasBits_21 (by decide) ?_
      exact r_bretP hQ C hr hm hs (by decide) hh dX7_hasBits_25
def mX7_countsLike (h : MHp) (a0 : Nat) (a1 : Option Nat) : Option (Int32) := (gI 8 3 h (some a0)).bind fun x1 => (if x1 = (-1) then (gI 8 3 h a1).bind fun x2 => (if x2 = (-1) then (gI 8 4 h (some a0)).bind fun x3 => (gI 8 4 h a1).bind fun x4 => (if x3 = x4 then (gI 8 5 h (some a0)).bind fun x5 => (gI 8 5 h a1).bind fun x6 => (if x5 = x6 then some 1 else some 0) else some 0) else some 0) else some 0)
set_option maxRecDepth 100000 in
set_option maxHeartbeats 4000000 in
theorem c_X7_countsLike (l : Launch) (G : Env0) (h : MHp) (a0 : Nat) (a1 : Option Nat) (res : Int32) (hh : mX7_countsLike h a0 a1 = some res) : MG l yX7_countsLike cX7_countsLike 2 (some .boolean) 0 0 0 0 G h [.ref a0, va_rf a1] (some (.int res)) (h) := by
  refine MG_of (own := RX7) (plainFor_of_name (by decide)) rfl (by simp [lg_sl, va_cat, vc_i, vc_l, vc_r]) ?_
  intro p e s m args below meth c Q ls hQ C X hin hm hs hl hr
  have hl : lv_has ls 2 [(0, .ref a0), (1, va_rf a1)] := by simpa [lv_args, va_cat, vc_i, vc_l, vc_r] using hl
  have hl : lv_has ls 2 [(0, va_rf (some a0)), (1, va_rf a1)] := hl
  unfold mX7_countsLike at hh
  refine r_aload_n C.1 C.2.1 dX7_countsLike_0 rfl (lv_at hl 0 rfl) ?_
  refine r_getI C hm flX7_36 dX7_countsLike_1 hh (fun x1 _ hh => ?_)
  refine lv_iconst (v := (-1)) C.1 C.2.1 dX7_countsLike_4 (by decide) ?_
  refine lv_icmp_ne (tgt := 42) C.1 C.2.1 dX7_countsLike_5 (by decide) (fun c10 => ?_) (fun c10 => ?_)
  · rw [if_neg c10] at hh
    refine lv_iconst (v := 0) C.1 C.2.1 dX7_countsLike_42 (by decide) ?_
    exact r_bretP hQ C hr hm hs (by decide) hh dX7_countsLike_43
  · rw [if_pos c10] at hh
    refine r_aload_n C.1 C.2.1 dX7_countsLike_8 rfl (lv_at hl 1 rfl) ?_
    refine r_getI C hm flX7_36 dX7_countsLike_9 hh (fun x2 _ hh => ?_)
    refine lv_iconst (v := (-1)) C.1 C.2.1 dX7_countsLike_12 (by decide) ?_
    refine lv_icmp_ne (tgt := 42) C.1 C.2.1 dX7_countsLike_13 (by decide) (fun c9 => ?_) (fun c9 => ?_)
    · rw [if_neg c9] at hh
      refine lv_iconst (v := 0) C.1 C.2.1 dX7_countsLike_42 (by decide) ?_
      exact r_bretP hQ C hr hm hs (by decide) hh dX7_countsLike_43
    · rw [if_pos c9] at hh
      refine r_aload_n C.1 C.2.1 dX7_countsLike_16 rfl (lv_at hl 0 rfl) ?_
      refine r_getI C hm flX7_40 dX7_countsLike_17 hh (fun x3 _ hh => ?_)
      refine r_aload_n C.1 C.2.1 dX7_countsLike_20 rfl (lv_at hl 1 rfl) ?_
      refine r_getI C hm flX7_40 dX7_countsLike_21 hh (fun x4 _ hh => ?_)
      refine lv_icmp_ne (tgt := 42) C.1 C.2.1 dX7_countsLike_24 (by decide) (fun c8 => ?_) (fun c8 => ?_)
      · rw [if_neg c8] at hh
        refine lv_iconst (v := 0) C.1 C.2.1 dX7_countsLike_42 (by decide) ?_
        exact r_bretP hQ C hr hm hs (by decide) hh dX7_countsLike_43
      · rw [if_pos c8] at hh
        refine r_aload_n C.1 C.2.1 dX7_countsLike_27 rfl (lv_at hl 0 rfl) ?_
        refine r_getI C hm flX7_43 dX7_countsLike_28 hh (fun x5 _ hh => ?_)
        refine r_aload_n C.1 C.2.1 dX7_countsLike_31 rfl (lv_at hl 1 rfl) ?_
        refine r_getI C hm flX7_43 dX7_countsLike_32 hh (fun x6 _ hh => ?_)
        refine lv_icmp_ne (tgt := 42) C.1 C.2.1 dX7_countsLike_35 (by decide) (fun c7 => ?_) (fun c7 => ?_)
        · rw [if_neg c7] at hh
          refine lv_iconst (v := 0) C.1 C.2.1 dX7_countsLike_42 (by decide) ?_
          exact r_bretP hQ C hr hm hs (by decide) hh dX7_countsLike_43
        · rw [if_pos c7] at hh
          refine lv_iconst (v := 1) C.1 C.2.1 dX7_countsLike_38 (by decide) ?_
          refine lv_goto (tgt := 43) C.1 C.2.1 dX7_countsLike_39 (by decide) ?_
          exact r_bretP hQ C hr hm hs (by decide) hh dX7_countsLike_43
def mX7_wasTold (h : MHp) (a0 : Nat) (a1 : Int32) (a2 : Int64) : Option (Int32) := (if a1 < 0 then some 0 else (if 100 ≤ a1 then some 0 else (gR 8 2 h (some a0)).bind fun x1 => (gAL 21 h x1 a1).bind fun x2 => (if (lg_cmp x2 (-1)) = 0 then some 0 else (gR 8 1 h (some a0)).bind fun x3 => (gAL 21 h x3 a1).bind fun x4 => (if (lg_cmp x4 a2) = 0 then some 1 else some 0))))
set_option maxRecDepth 100000 in
set_option maxHeartbeats 4000000 in
theorem c_X7_wasTold (l : Launch) (G : Env0) (h : MHp) (a0 : Nat) (a1 : Int32) (a2 : Int64) (res : Int32) (hh : mX7_wasTold h a0 a1 a2 = some res) : MG l yX7_wasTold cX7_wasTold 4 (some .boolean) 0 0 0 0 G h [.ref a0, .int a1, .long a2] (some (.int res)) (h) := by
  refine MG_of (own := RX7) (plainFor_of_name (by decide)) rfl (Nat.le_of_ble_eq_true rfl) ?_
  intro p e s m args below meth c Q ls hQ C X hin hm hs hl hr
  have hl : lv_has ls 4 [(0, va_rf (some a0)), (1, .int a1), (2, .long a2)] := hl
  unfold mX7_wasTold at hh
  refine lv_iload_n C.1 C.2.1 dX7_wasTold_0 rfl (lv_at hl 1 rfl) ?_
  refine lv_if_lt (tgt := 38) C.1 C.2.1 dX7_wasTold_1 (by decide) (fun c8 => ?_) (fun c8 => ?_)
  · rw [if_pos c8] at hh
    refine lv_iconst (v := 0) C.1 C.2.1 dX7_wasTold_38 (by decide) ?_
    exact r_bretP hQ C hr hm hs (by decide) hh dX7_wasTold_39
  · rw [if_neg c8] at hh
    refine lv_iload_n C.1 C.2.1 dX7_wasTold_4 rfl (lv_at hl 1 rfl) ?_
    refine lv_bipush (v := 100) C.1 C.2.1 dX7_wasTold_5 (by decide) ?_
    refine lv_icmp_ge (tgt := 38) C.1 C.2.1 dX7_wasTold_7 (by decide) (fun c7 => ?_) (fun c7 => ?_)
    · rw [if_pos c7] at hh
      refine lv_iconst (v := 0) C.1 C.2.1 dX7_wasTold_38 (by decide) ?_
      exact r_bretP hQ C hr hm hs (by decide) hh dX7_wasTold_39
    · rw [if_neg c7] at hh
      refine r_aload_n C.1 C.2.1 dX7_wasTold_10 rfl (lv_at hl 0 rfl) ?_
      refine r_getR C hm flX7_22 dX7_wasTold_11 hh (fun x1 _ hh => ?_)
      refine lv_iload_n C.1 C.2.1 dX7_wasTold_14 rfl (lv_at hl 1 rfl) ?_
      refine r_lald C hm dX7_wasTold_15 hh (fun x2 _ hh => ?_)
      refine lv_ldc2 (v := (-1)) C.1 C.2.1 C.2.2.2.1 (C.2.2.2.2.1 _ (in_tbl q_619 rfl)) dX7_wasTold_16 ?_
      refine W.lcmp C.1 C.2.1 dX7_wasTold_19 ?_
      refine lv_if_eq (tgt := 38) C.1 C.2.1 dX7_wasTold_20 (by decide) (fun c6 => ?_) (fun c6 => ?_)
      · rw [if_pos c6] at hh
        refine lv_iconst (v := 0) C.1 C.2.1 dX7_wasTold_38 (by decide) ?_
        exact r_bretP hQ C hr hm hs (by decide) hh dX7_wasTold_39
      · rw [if_neg c6] at hh
        refine r_aload_n C.1 C.2.1 dX7_wasTold_23 rfl (lv_at hl 0 rfl) ?_
        refine r_getR C hm flX7_18 dX7_wasTold_24 hh (fun x3 _ hh => ?_)
        refine lv_iload_n C.1 C.2.1 dX7_wasTold_27 rfl (lv_at hl 1 rfl) ?_
        refine r_lald C hm dX7_wasTold_28 hh (fun x4 _ hh => ?_)
        refine lv_lload_n C.1 C.2.1 dX7_wasTold_29 rfl (lv_at hl 2 rfl) ?_
        refine W.lcmp C.1 C.2.1 dX7_wasTold_30 ?_
        refine lv_if_ne (tgt := 38) C.1 C.2.1 dX7_wasTold_31 (by decide) (fun c5 => ?_) (fun c5 => ?_)
        · rw [if_neg c5] at hh
          refine lv_iconst (v := 0) C.1 C.2.1 dX7_wasTold_38 (by decide) ?_
          exact r_bretP hQ C hr hm hs (by decide) hh dX7_wasTold_39
        · rw [if_pos c5] at hh
          refine lv_iconst (v := 1) C.1 C.2.1 dX7_wasTold_34 (by decide) ?_
          refine lv_goto (tgt := 39) C.1 C.2.1 dX7_wasTold_35 (by decide) ?_
          exact r_bretP hQ C hr hm hs (by decide) hh dX7_wasTold_39
def mX7_toldAtLast (h : MHp) (a0 : Nat) (a1 : Int32) : Option (Int64) := (if a1 < 0 then some (-1) else (if 100 ≤ a1 then some (-1) else (gR 8 2 h (some a0)).bind fun x1 => (gAL 21 h x1 a1).bind fun x2 => some x2))
set_option maxRecDepth 100000 in
set_option maxHeartbeats 4000000 in
theorem c_X7_toldAtLast (l : Launch) (G : Env0) (h : MHp) (a0 : Nat) (a1 : Int32) (res : Int64) (hh : mX7_toldAtLast h a0 a1 = some res) : MG l yX7_toldAtLast cX7_toldAtLast 2 (some .long) 0 0 0 0 G h [.ref a0, .int a1] (some (.long res)) (h) := by
  refine MG_of (own := RX7) (plainFor_of_name (by decide)) rfl (Nat.le_of_ble_eq_true rfl) ?_
  intro p e s m args below meth c Q ls hQ C X hin hm hs hl hr
  have hl : lv_has ls 2 [(0, va_rf (some a0)), (1, .int a1)] := hl
  unfold mX7_toldAtLast at hh
  refine lv_iload_n C.1 C.2.1 dX7_toldAtLast_0 rfl (lv_at hl 1 rfl) ?_
  refine lv_if_lt (tgt := 19) C.1 C.2.1 dX7_toldAtLast_1 (by decide) (fun c4 => ?_) (fun c4 => ?_)
  · rw [if_pos c4] at hh
    refine lv_ldc2 (v := (-1)) C.1 C.2.1 C.2.2.2.1 (C.2.2.2.2.1 _ (in_tbl q_619 rfl)) dX7_toldAtLast_19 ?_
    exact r_lretP hQ C hr hm hs hh dX7_toldAtLast_22
  · rw [if_neg c4] at hh
    refine lv_iload_n C.1 C.2.1 dX7_toldAtLast_4 rfl (lv_at hl 1 rfl) ?_
    refine lv_bipush (v := 100) C.1 C.2.1 dX7_toldAtLast_5 (by decide) ?_
    refine lv_icmp_ge (tgt := 19) C.1 C.2.1 dX7_toldAtLast_7 (by decide) (fun c3 => ?_) (fun c3 => ?_)
    · rw [if_pos c3] at hh
      refine lv_ldc2 (v := (-1)) C.1 C.2.1 C.2.2.2.1 (C.2.2.2.2.1 _ (in_tbl q_619 rfl)) dX7_toldAtLast_19 ?_
      exact r_lretP hQ C hr hm hs hh dX7_toldAtLast_22
    · rw [if_neg c3] at hh
      refine r_aload_n C.1 C.2.1 dX7_toldAtLast_10 rfl (lv_at hl 0 rfl) ?_
      refine r_getR C hm flX7_22 dX7_toldAtLast_11 hh (fun x1 _ hh => ?_)
      refine lv_iload_n C.1 C.2.1 dX7_toldAtLast_14 rfl (lv_at hl 1 rfl) ?_
      refine r_lald C hm dX7_toldAtLast_15 hh (fun x2 _ hh => ?_)
      refine lv_goto (tgt := 22) C.1 C.2.1 dX7_toldAtLast_16 (by decide) ?_
      exact r_lretP hQ C hr hm hs hh dX7_toldAtLast_22
def mX7_tell (h : MHp) (a0 : Nat) (a1 : Int32) (a2 : Int64) (a3 : Int64) : Option (MHp) := (if a1 < 0 then some h else (if 100 ≤ a1 then some h else (gR 8 1 h (some a0)).bind fun x1 => (pAL 21 h x1 a1 a2).bind fun h2 => (gR 8 2 h2 (some a0)).bind fun x3 => (pAL 21 h2 x3 a1 a3).bind fun h4 => some h4))
set_option maxRecDepth 100000 in
set_option maxHeartbeats 4000000 in
theorem c_X7_tell (l : Launch) (G : Env0) (h : MHp) (a0 : Nat) (a1 : Int32) (a2 : Int64) (a3 : Int64) (res : MHp) (hh : mX7_tell h a0 a1 a2 a3 = some res) : MG l yX7_tell cX7_tell 6 none 0 0 0 0 G h [.ref a0, .int a1, .long a2, .long a3] (none) (res) := by
  refine MG_of (own := RX7) (plainFor_of_name (by decide)) rfl (Nat.le_of_ble_eq_true rfl) ?_
  intro p e s m args below meth c Q ls hQ C X hin hm hs hl hr
  have hl : lv_has ls 6 [(0, va_rf (some a0)), (1, .int a1), (2, .long a2), (4, .long a3)] := hl
  unfold mX7_tell at hh
  refine lv_iload_n C.1 C.2.1 dX7_tell_0 rfl (lv_at hl 1 rfl) ?_
  refine lv_if_lt (tgt := 25) C.1 C.2.1 dX7_tell_1 (by decide) (fun c6 => ?_) (fun c6 => ?_)
  · rw [if_pos c6] at hh
    exact r_vretW hQ C hr hm hs hh dX7_tell_25
  · rw [if_neg c6] at hh
    refine lv_iload_n C.1 C.2.1 dX7_tell_4 rfl (lv_at hl 1 rfl) ?_
    refine lv_bipush (v := 100) C.1 C.2.1 dX7_tell_5 (by decide) ?_
    refine lv_icmp_ge (tgt := 25) C.1 C.2.1 dX7_tell_7 (by decide) (fun c5 => ?_) (fun c5 => ?_)
    · rw [if_pos c5] at hh
      exact r_vretW hQ C hr hm hs hh dX7_tell_25
    · rw [if_neg c5] at hh
      refine r_aload_n C.1 C.2.1 dX7_tell_10 rfl (lv_at hl 0 rfl) ?_
      refine r_getR C hm flX7_18 dX7_tell_11 hh (fun x1 _ hh => ?_)
      refine lv_iload_n C.1 C.2.1 dX7_tell_14 rfl (lv_at hl 1 rfl) ?_
      refine lv_lload_n C.1 C.2.1 dX7_tell_15 rfl (lv_at hl 2 rfl) ?_
      refine r_last C hm hs dX7_tell_16 hh (fun h2 H locs _ hh hm hs => ?_)
      refine r_aload_n C.1 C.2.1 dX7_tell_17 rfl (lv_at hl 0 rfl) ?_
      refine r_getR C hm flX7_22 dX7_tell_18 hh (fun x3 _ hh => ?_)
      refine lv_iload_n C.1 C.2.1 dX7_tell_21 rfl (lv_at hl 1 rfl) ?_
      refine lv_lload C.1 C.2.1 dX7_tell_22 (lv_at hl 3 rfl) ?_
      refine r_last C hm hs dX7_tell_24 hh (fun h4 H locs _ hh hm hs => ?_)
      exact r_vretW hQ C hr hm hs hh dX7_tell_25

def mX4_init (h : MHp) (a0 : Nat) : Option (MHp) := (some (nA h 20 100)).bind fun h1 => (pR 5 1 h1 (some a0) (some (hS h))).bind fun h2 => some h2
set_option maxRecDepth 100000 in
set_option maxHeartbeats 4000000 in
theorem c_X4_init (l : Launch) (G : Env0) (h : MHp) (a0 : Nat) (res : MHp) (hh : mX4_init h a0 = some res) : MG l yX4_init cX4_init 1 none 1 12 1 100 G h [.ref a0] (none) (res) := by
  refine MG_of (own := RX4) (plainFor_of_name (by decide)) rfl (Nat.le_of_ble_eq_true rfl) ?_
  intro p e s m args below meth c Q ls hQ C X hin hm hs hl hr
  have hl : lv_has ls 1 [(0, va_rf (some a0))] := hl
  unfold mX4_init at hh
  refine r_aload_n C.1 C.2.1 dX4_init_0 rfl (lv_at hl 0 rfl) ?_
  refine r_objInit C (in_tbl q_393 rfl) (in_tbl q_37 rfl) (in_tbl q_38 rfl) hl.1 dX4_init_1 (Nat.le_of_ble_eq_true rfl) (Nat.le_of_ble_eq_true rfl) ?_
  refine r_aload_n C.1 C.2.1 dX4_init_4 rfl (lv_at hl 0 rfl) ?_
  refine lv_bipush (v := 100) C.1 C.2.1 dX4_init_5 (by decide) ?_
  refine r_newaG C hm hs (kd := 20) (w := 4) (by decide) aw20 dX4_init_7 (N := 100) (by decide) (by decide) (by decide) hh (Nat.le_of_ble_eq_true rfl) (Nat.le_of_ble_eq_true rfl) (fun h1 H hh hm hs => ?_)
  refine r_putR C hm hs flX4_9 (Or.inr ⟨ffX4_9, hin rfl⟩) dX4_init_9 hh (fun h2 H locs _ hh hm hs => ?_)
  refine W.widen (k := 1) (n := 100) (by omega) (by omega) ?_
  exact r_vretW hQ C hr hm hs hh dX4_init_12
def mX4_clear (h : MHp) (a0 : Nat) : Option (MHp) := (pI 5 2 h (some a0) 0).bind fun h1 => (pI 5 0 h1 (some a0) 0).bind fun h2 => some h2
set_option maxRecDepth 100000 in
set_option maxHeartbeats 4000000 in
theorem c_X4_clear (l : Launch) (G : Env0) (h : MHp) (a0 : Nat) (res : MHp) (hh : mX4_clear h a0 = some res) : MG l yX4_clear cX4_clear 1 none 0 0 0 0 G h [.ref a0] (none) (res) := by
  refine MG_of (own := RX4) (plainFor_of_name (by decide)) rfl (Nat.le_of_ble_eq_true rfl) ?_
  intro p e s m args below meth c Q ls hQ C X hin hm hs hl hr
  have hl : lv_has ls 1 [(0, va_rf (some a0))] := hl
  unfold mX4_clear at hh
  refine r_aload_n C.1 C.2.1 dX4_clear_0 rfl (lv_at hl 0 rfl) ?_
  refine lv_iconst (v := 0) C.1 C.2.1 dX4_clear_1 (by decide) ?_
  refine r_putI C hm hs flX4_15 (Or.inl fm_5_2) dX4_clear_2 hh (fun h1 H locs _ hh hm hs => ?_)
  refine r_aload_n C.1 C.2.1 dX4_clear_5 rfl (lv_at hl 0 rfl) ?_
  refine lv_iconst (v := 0) C.1 C.2.1 dX4_clear_6 (by decide) ?_
  refine r_putI C hm hs flX4_19 (Or.inl fm_5_0) dX4_clear_7 hh (fun h2 H locs _ hh hm hs => ?_)
  exact r_vretW hQ C hr hm hs hh dX4_clear_10
def mX4_isFull (h : MHp) (a0 : Nat) : Option (Int32) := (gI 5 0 h (some a0)).bind fun x1 => (if x1 < 100 then some 0 else some 1)
set_option maxRecDepth 100000 in
set_option maxHeartbeats 4000000 in
theorem c_X4_isFull (l : Launch) (G : Env0) (h : MHp) (a0 : Nat) (res : Int32) (hh : mX4_isFull h a0 = some res) : MG l yX4_isFull cX4_isFull 1 (some .boolean) 0 0 0 0 G h [.ref a0] (some (.int res)) (h) := by
  refine MG_of (own := RX4) (plainFor_of_name (by decide)) rfl (Nat.le_of_ble_eq_true rfl) ?_
  intro p e s m args below meth c Q ls hQ C X hin hm hs hl hr
  have hl : lv_has ls 1 [(0, va_rf (some a0))] := hl
  unfold mX4_isFull at hh
  refine r_aload_n C.1 C.2.1 dX4_isFull_0 rfl (lv_at hl 0 rfl) ?_
  refine r_getI C hm flX4_19 dX4_isFull_1 hh (fun x1 _ hh => ?_)
  refine lv_bipush (v := 100) C.1 C.2.1 dX4_isFull_4 (by decide) ?_
  refine lv_icmp_lt (tgt := 13) C.1 C.2.1 dX4_isFull_6 (by decide) (fun c2 => ?_) (fun c2 => ?_)
  · rw [if_pos c2] at hh
    refine lv_iconst (v := 0) C.1 C.2.1 dX4_isFull_13 (by decide) ?_
    exact r_bretP hQ C hr hm hs (by decide) hh dX4_isFull_14
  · rw [if_neg c2] at hh
    refine lv_iconst (v := 1) C.1 C.2.1 dX4_isFull_9 (by decide) ?_
    refine lv_goto (tgt := 14) C.1 C.2.1 dX4_isFull_10 (by decide) ?_
    exact r_bretP hQ C hr hm hs (by decide) hh dX4_isFull_14
def mX4_add_b41 (h : MHp) (a0 : Nat) : Option (Int32 × MHp) := (gI 5 0 h (some a0)).bind fun x1 => some (x1, h)
def mX4_add (h : MHp) (a0 : Nat) (a1 : Int32) : Option (Int32 × MHp) := (gI 5 2 h (some a0)).bind fun x2 => (gI 5 0 h (some a0)).bind fun x3 => (rcv 5 h (some a0)).bind fun b5 => (mX4_isFull h b5).bind fun r4 => (if r4 = 0 then (if ((x2 + x3) - (x2 + x3) / 100 * 100) < 0 then mX4_add_b41 h a0 else (gR 5 1 h (some a0)).bind fun x6 => (pAI 20 h x6 ((x2 + x3) - (x2 + x3) / 100 * 100) a1).bind fun h7 => (gI 5 0 h7 (some a0)).bind fun x8 => (pI 5 0 h7 (some a0) (x8 + 1)).bind fun h9 => mX4_add_b41 h9 a0) else mX4_add_b41 h a0)
set_option maxRecDepth 100000 in
set_option maxHeartbeats 4000000 in
theorem c_X4_add (l : Launch) (G : Env0) (h : MHp) (a0 : Nat) (a1 : Int32) (res : Int32 × MHp) (hh : mX4_add h a0 a1 = some res) : MG l yX4_add cX4_add 3 (some .int) 1 20 0 0 G h [.ref a0, .int a1] (some (.int res.1)) (res.2) := by
  refine MG_of (own := RX4) (plainFor_of_name (by decide)) rfl (Nat.le_of_ble_eq_true rfl) ?_
  intro p e s m args below meth c Q ls hQ C X hin hm hs hl hr
  have hl : lv_has ls 3 [(0, va_rf (some a0)), (1, .int a1)] := hl
  have B41 : ∀ (h : MHp) (H : Heap) (locs : List Loc) (ls : Array Slot) (a0 : Nat) , mHp (gD G) (gC G) (gB G) h H → va_S (fun q => gB G ≤ q) s.heap H locs → lv_has ls 3 [(0, va_rf (some a0))] → mX4_add_b41 h a0 = some res → W p l e ({ frames := 1, cells := 0, slots := 0, locals := 20 }) s m args below meth c H locs 0 0 Q (F0 m 41 ls []) := by
    intro h H locs ls a0 hm hs hl hh
    unfold mX4_add_b41 at hh
    refine r_aload_n C.1 C.2.1 dX4_add_41 rfl (lv_at hl 0 rfl) ?_
    refine r_getI C hm flX4_19 dX4_add_42 hh (fun x1 _ hh => ?_)
    exact r_iretW hQ C hr hm hs hh dX4_add_45
  unfold mX4_add at hh
  refine r_aload_n C.1 C.2.1 dX4_add_0 rfl (lv_at hl 0 rfl) ?_
  refine r_getI C hm flX4_15 dX4_add_1 hh (fun x2 _ hh => ?_)
  refine r_aload_n C.1 C.2.1 dX4_add_4 rfl (lv_at hl 0 rfl) ?_
  refine r_getI C hm flX4_19 dX4_add_5 hh (fun x3 _ hh => ?_)
  refine lv_iadd C.1 C.2.1 dX4_add_8 ?_
  refine lv_bipush (v := 100) C.1 C.2.1 dX4_add_9 (by decide) ?_
  refine lv_irem C.1 C.2.1 dX4_add_11 (by decide) ?_
  refine lv_istore_n (i := 2) (lv' := [(2, .int ((x2 + x3) - (x2 + x3) / 100 * 100)), (0, va_rf (some a0)), (1, .int a1)]) C.1 C.2.1 dX4_add_12 rfl hl (by decide) rfl (fun ls hl => ?_)
  refine r_aload_n C.1 C.2.1 dX4_add_13 rfl (lv_at hl 1 rfl) ?_
  refine r_cV C X hm hs mlX4_22 mvX4_22 hh (vv := fun r => some (.int r)) (hp := fun r => h) (fun b r hg => c_X4_isFull l G h b  r hg) rfl rfl (Nat.le_of_ble_eq_true rfl) (Nat.le_of_ble_eq_true rfl) (Nat.le_of_ble_eq_true rfl) hl.1 dX4_add_14 (fun b5 r4 H locs hgr4 hh hm hs => ?_)
  refine W.eq (g2 := F0 m 17 ls [.int r4]) rfl ?_
  refine lv_if_ne (tgt := 41) C.1 C.2.1 dX4_add_17 (by decide) (fun c11 => ?_) (fun c11 => ?_)
  · rw [if_neg c11] at hh
    exact B41 _ _ _ _ _  hm hs (lv_sub hl [1] rfl) hh
  · rw [if_pos c11] at hh
    refine lv_iload_n C.1 C.2.1 dX4_add_20 rfl (lv_at hl 0 rfl) ?_
    refine lv_if_lt (tgt := 41) C.1 C.2.1 dX4_add_21 (by decide) (fun c10 => ?_) (fun c10 => ?_)
    · rw [if_pos c10] at hh
      exact B41 _ _ _ _ _  hm hs (lv_sub hl [1] rfl) hh
    · rw [if_neg c10] at hh
      refine r_aload_n C.1 C.2.1 dX4_add_24 rfl (lv_at hl 1 rfl) ?_
      refine r_getR C hm flX4_9 dX4_add_25 hh (fun x6 _ hh => ?_)
      refine lv_iload_n C.1 C.2.1 dX4_add_28 rfl (lv_at hl 0 rfl) ?_
      refine lv_iload_n C.1 C.2.1 dX4_add_29 rfl (lv_at hl 2 rfl) ?_
      refine r_ast C hm hs dX4_add_30 hh (fun h7 H locs _ hh hm hs => ?_)
      refine r_aload_n C.1 C.2.1 dX4_add_31 rfl (lv_at hl 1 rfl) ?_
      refine lv_dup C.1 C.2.1 dX4_add_32 (va_cat _) ?_
      refine r_getI C hm flX4_19 dX4_add_33 hh (fun x8 _ hh => ?_)
      refine lv_iconst (v := 1) C.1 C.2.1 dX4_add_36 (by decide) ?_
      refine lv_iadd C.1 C.2.1 dX4_add_37 ?_
      refine r_putI C hm hs flX4_19 (Or.inl fm_5_0) dX4_add_38 hh (fun h9 H locs _ hh hm hs => ?_)
      exact B41 _ _ _ _ _  hm hs (lv_sub hl [1] rfl) hh
def mX4_take (h : MHp) (a0 : Nat) : Option (Int32 × MHp) := (gI 5 0 h (some a0)).bind fun x1 => (if x1 ≤ 0 then some (0, h) else (gI 5 2 h (some a0)).bind fun x2 => (if x2 < 0 then some (0, h) else (gI 5 2 h (some a0)).bind fun x3 => (if x3 < 100 then (gR 5 1 h (some a0)).bind fun x4 => (gI 5 2 h (some a0)).bind fun x5 => (gAI 20 h x4 x5).bind fun x6 => (gI 5 2 h (some a0)).bind fun x7 => (pI 5 2 h (some a0) ((x7 + 1) - (x7 + 1) / 100 * 100)).bind fun h8 => (gI 5 0 h8 (some a0)).bind fun x9 => (pI 5 0 h8 (some a0) (x9 - 1)).bind fun h10 => some (x6, h10) else some (0, h))))
set_option maxRecDepth 100000 in
set_option maxHeartbeats 4000000 in
theorem c_X4_take (l : Launch) (G : Env0) (h : MHp) (a0 : Nat) (res : Int32 × MHp) (hh : mX4_take h a0 = some res) : MG l yX4_take cX4_take 2 (some .int) 0 0 0 0 G h [.ref a0] (some (.int res.1)) (res.2) := by
  refine MG_of (own := RX4) (plainFor_of_name (by decide)) rfl (Nat.le_of_ble_eq_true rfl) ?_
  intro p e s m args below meth c Q ls hQ C X hin hm hs hl hr
  have hl : lv_has ls 2 [(0, va_rf (some a0))] := hl
  unfold mX4_take at hh
  refine r_aload_n C.1 C.2.1 dX4_take_0 rfl (lv_at hl 0 rfl) ?_
  refine r_getI C hm flX4_19 dX4_take_1 hh (fun x1 _ hh => ?_)
  refine lv_if_le (tgt := 23) C.1 C.2.1 dX4_take_4 (by decide) (fun c13 => ?_) (fun c13 => ?_)
  · rw [if_pos c13] at hh
    refine lv_iconst (v := 0) C.1 C.2.1 dX4_take_23 (by decide) ?_
    exact r_iretW hQ C hr hm hs hh dX4_take_24
  · rw [if_neg c13] at hh
    refine r_aload_n C.1 C.2.1 dX4_take_7 rfl (lv_at hl 0 rfl) ?_
    refine r_getI C hm flX4_15 dX4_take_8 hh (fun x2 _ hh => ?_)
    refine lv_if_lt (tgt := 23) C.1 C.2.1 dX4_take_11 (by decide) (fun c12 => ?_) (fun c12 => ?_)
    · rw [if_pos c12] at hh
      refine lv_iconst (v := 0) C.1 C.2.1 dX4_take_23 (by decide) ?_
      exact r_iretW hQ C hr hm hs hh dX4_take_24
    · rw [if_neg c12] at hh
      refine r_aload_n C.1 C.2.1 dX4_take_14 rfl (lv_at hl 0 rfl) ?_
      refine r_getI C hm flX4_15 dX4_take_15 hh (fun x3 _ hh => ?_)
      refine lv_bipush (v := 100) C.1 C.2.1 dX4_take_18 (by decide) ?_
      refine lv_icmp_lt (tgt := 25) C.1 C.2.1 dX4_take_20 (by decide) (fun c11 => ?_) (fun c11 => ?_)
      · rw [if_pos c11] at hh
        refine r_aload_n C.1 C.2.1 dX4_take_25 rfl (lv_at hl 0 rfl) ?_
        refine r_getR C hm flX4_9 dX4_take_26 hh (fun x4 _ hh => ?_)
        refine r_aload_n C.1 C.2.1 dX4_take_29 rfl (lv_at hl 0 rfl) ?_
        refine r_getI C hm flX4_15 dX4_take_30 hh (fun x5 _ hh => ?_)
        refine r_ald C hm dX4_take_33 hh (fun x6 _ hh => ?_)
        refine lv_istore_n (i := 1) (lv' := [(1, .int x6), (0, va_rf (some a0))]) C.1 C.2.1 dX4_take_34 rfl hl (by decide) (by simp [va_cat, vc_i, vc_l, vc_r]) (fun ls hl => ?_)
        refine r_aload_n C.1 C.2.1 dX4_take_35 rfl (lv_at hl 1 rfl) ?_
        refine r_aload_n C.1 C.2.1 dX4_take_36 rfl (lv_at hl 1 rfl) ?_
        refine r_getI C hm flX4_15 dX4_take_37 hh (fun x7 _ hh => ?_)
        refine lv_iconst (v := 1) C.1 C.2.1 dX4_take_40 (by decide) ?_
        refine lv_iadd C.1 C.2.1 dX4_take_41 ?_
        refine lv_bipush (v := 100) C.1 C.2.1 dX4_take_42 (by decide) ?_
        refine lv_irem C.1 C.2.1 dX4_take_44 (by decide) ?_
        refine r_putI C hm hs flX4_15 (Or.inl fm_5_2) dX4_take_45 hh (fun h8 H locs _ hh hm hs => ?_)
        refine r_aload_n C.1 C.2.1 dX4_take_48 rfl (lv_at hl 1 rfl) ?_
        refine lv_dup C.1 C.2.1 dX4_take_49 (va_cat _) ?_
        refine r_getI C hm flX4_19 dX4_take_50 hh (fun x9 _ hh => ?_)
        refine lv_iconst (v := 1) C.1 C.2.1 dX4_take_53 (by decide) ?_
        refine lv_isub C.1 C.2.1 dX4_take_54 ?_
        refine r_putI C hm hs flX4_19 (Or.inl fm_5_0) dX4_take_55 hh (fun h10 H locs _ hh hm hs => ?_)
        refine lv_iload_n C.1 C.2.1 dX4_take_58 rfl (lv_at hl 0 rfl) ?_
        exact r_iretW hQ C hr hm hs hh dX4_take_59
      · rw [if_neg c11] at hh
        refine lv_iconst (v := 0) C.1 C.2.1 dX4_take_23 (by decide) ?_
        exact r_iretW hQ C hr hm hs hh dX4_take_24

def mX3_init (h : MHp) (a0 : Nat) (a1 : Option Nat) : Option (MHp) := (some (nA h 20 100)).bind fun h1 => (pR 4 1 h1 (some a0) (some (hS h))).bind fun h2 => (some (nA h2 20 100)).bind fun h3 => (pR 4 2 h3 (some a0) (some (hS h2))).bind fun h4 => (some (nA h4 20 100)).bind fun h5 => (pR 4 3 h5 (some a0) (some (hS h4))).bind fun h6 => (some (nA h6 20 20)).bind fun h7 => (pR 4 4 h7 (some a0) (some (hS h6))).bind fun h8 => (some (nA h8 20 20)).bind fun h9 => (pR 4 5 h9 (some a0) (some (hS h8))).bind fun h10 => (pI 4 6 h10 (some a0) 1).bind fun h11 => (pI 4 7 h11 (some a0) 1).bind fun h12 => (pR 4 0 h12 (some a0) a1).bind fun h13 => some h13
set_option maxRecDepth 100000 in
set_option maxHeartbeats 4000000 in
theorem c_X3_init (l : Launch) (G : Env0) (h : MHp) (a0 : Nat) (a1 : Option Nat) (res : MHp) (hh : mX3_init h a0 a1 = some res) : MG l yX3_init cX3_init 2 none 1 12 5 340 G h [.ref a0, va_rf a1] (none) (res) := by
  refine MG_of (own := RX3) (plainFor_of_name (by decide)) rfl (by simp [lg_sl, va_cat, vc_i, vc_l, vc_r]) ?_
  intro p e s m args below meth c Q ls hQ C X hin hm hs hl hr
  have hl : lv_has ls 2 [(0, .ref a0), (1, va_rf a1)] := by simpa [lv_args, va_cat, vc_i, vc_l, vc_r] using hl
  have hl : lv_has ls 2 [(0, va_rf (some a0)), (1, va_rf a1)] := hl
  unfold mX3_init at hh
  refine r_aload_n C.1 C.2.1 dX3_init_0 rfl (lv_at hl 0 rfl) ?_
  refine r_objInit C (in_tbl q_362 rfl) (in_tbl q_37 rfl) (in_tbl q_38 rfl) hl.1 dX3_init_1 (Nat.le_of_ble_eq_true rfl) (Nat.le_of_ble_eq_true rfl) ?_
  refine r_aload_n C.1 C.2.1 dX3_init_4 rfl (lv_at hl 0 rfl) ?_
  refine lv_bipush (v := 100) C.1 C.2.1 dX3_init_5 (by decide) ?_
  refine r_newaG C hm hs (kd := 20) (w := 4) (by decide) aw20 dX3_init_7 (N := 100) (by decide) (by decide) (by decide) hh (Nat.le_of_ble_eq_true rfl) (Nat.le_of_ble_eq_true rfl) (fun h1 H hh hm hs => ?_)
  refine r_putR C hm hs flX3_9 (Or.inr ⟨ffX3_9, hin rfl⟩) dX3_init_9 hh (fun h2 H locs _ hh hm hs => ?_)
  refine r_aload_n C.1 C.2.1 dX3_init_12 rfl (lv_at hl 0 rfl) ?_
  refine lv_bipush (v := 100) C.1 C.2.1 dX3_init_13 (by decide) ?_
  refine r_newaG C hm hs (kd := 20) (w := 4) (by decide) aw20 dX3_init_15 (N := 100) (by decide) (by decide) (by decide) hh (Nat.le_of_ble_eq_true rfl) (Nat.le_of_ble_eq_true rfl) (fun h3 H hh hm hs => ?_)
  refine r_putR C hm hs flX3_15 (Or.inr ⟨ffX3_15, hin rfl⟩) dX3_init_17 hh (fun h4 H locs _ hh hm hs => ?_)
  refine r_aload_n C.1 C.2.1 dX3_init_20 rfl (lv_at hl 0 rfl) ?_
  refine lv_bipush (v := 100) C.1 C.2.1 dX3_init_21 (by decide) ?_
  refine r_newaG C hm hs (kd := 20) (w := 4) (by decide) aw20 dX3_init_23 (N := 100) (by decide) (by decide) (by decide) hh (Nat.le_of_ble_eq_true rfl) (Nat.le_of_ble_eq_true rfl) (fun h5 H hh hm hs => ?_)
  refine r_putR C hm hs flX3_18 (Or.inr ⟨ffX3_18, hin rfl⟩) dX3_init_25 hh (fun h6 H locs _ hh hm hs => ?_)
  refine r_aload_n C.1 C.2.1 dX3_init_28 rfl (lv_at hl 0 rfl) ?_
  refine lv_bipush (v := 20) C.1 C.2.1 dX3_init_29 (by decide) ?_
  refine r_newaG C hm hs (kd := 20) (w := 4) (by decide) aw20 dX3_init_31 (N := 20) (by decide) (by decide) (by decide) hh (Nat.le_of_ble_eq_true rfl) (Nat.le_of_ble_eq_true rfl) (fun h7 H hh hm hs => ?_)
  refine r_putR C hm hs flX3_21 (Or.inr ⟨ffX3_21, hin rfl⟩) dX3_init_33 hh (fun h8 H locs _ hh hm hs => ?_)
  refine r_aload_n C.1 C.2.1 dX3_init_36 rfl (lv_at hl 0 rfl) ?_
  refine lv_bipush (v := 20) C.1 C.2.1 dX3_init_37 (by decide) ?_
  refine r_newaG C hm hs (kd := 20) (w := 4) (by decide) aw20 dX3_init_39 (N := 20) (by decide) (by decide) (by decide) hh (Nat.le_of_ble_eq_true rfl) (Nat.le_of_ble_eq_true rfl) (fun h9 H hh hm hs => ?_)
  refine r_putR C hm hs flX3_24 (Or.inr ⟨ffX3_24, hin rfl⟩) dX3_init_41 hh (fun h10 H locs _ hh hm hs => ?_)
  refine r_aload_n C.1 C.2.1 dX3_init_44 rfl (lv_at hl 0 rfl) ?_
  refine lv_iconst (v := 1) C.1 C.2.1 dX3_init_45 (by decide) ?_
  refine r_putI C hm hs flX3_27 (Or.inl fm_4_6) dX3_init_46 hh (fun h11 H locs _ hh hm hs => ?_)
  refine r_aload_n C.1 C.2.1 dX3_init_49 rfl (lv_at hl 0 rfl) ?_
  refine lv_iconst (v := 1) C.1 C.2.1 dX3_init_50 (by decide) ?_
  refine r_putI C hm hs flX3_31 (Or.inl fm_4_7) dX3_init_51 hh (fun h12 H locs _ hh hm hs => ?_)
  refine r_aload_n C.1 C.2.1 dX3_init_54 rfl (lv_at hl 0 rfl) ?_
  refine r_aload_n C.1 C.2.1 dX3_init_55 rfl (lv_at hl 1 rfl) ?_
  refine r_putR C hm hs flX3_34 (Or.inr ⟨ffX3_34, hin rfl⟩) dX3_init_56 hh (fun h13 H locs _ hh hm hs => ?_)
  refine W.widen (k := 5) (n := 340) (by omega) (by omega) ?_
  exact r_vretW hQ C hr hm hs hh dX3_init_59
def mX3_open (h : MHp) (a0 : Nat) (a1 : Option Nat) : Option (MHp) := (gI 8 6 h a1).bind fun x1 => (pI 4 6 h (some a0) x1).bind fun h2 => (gI 8 7 h2 a1).bind fun x3 => (pI 4 7 h2 (some a0) x3).bind fun h4 => (gR 4 0 h4 (some a0)).bind fun x5 => (gR 4 1 h4 (some a0)).bind fun x6 => (rcv 3 h4 x5).bind fun b8 => (mX2_countRows h4 b8 a1 x6).bind fun r7 => some r7
set_option maxRecDepth 100000 in
set_option maxHeartbeats 4000000 in
theorem c_X3_open (l : Launch) (G : Env0) (h : MHp) (a0 : Nat) (a1 : Option Nat) (res : MHp) (hh : mX3_open h a0 a1 = some res) : MG l yX3_open cX3_open 2 none 5 120 0 0 G h [.ref a0, va_rf a1] (none) (res) := by
  refine MG_of (own := RX3) (plainFor_of_name (by decide)) rfl (by simp [lg_sl, va_cat, vc_i, vc_l, vc_r]) ?_
  intro p e s m args below meth c Q ls hQ C X hin hm hs hl hr
  have hl : lv_has ls 2 [(0, .ref a0), (1, va_rf a1)] := by simpa [lv_args, va_cat, vc_i, vc_l, vc_r] using hl
  have hl : lv_has ls 2 [(0, va_rf (some a0)), (1, va_rf a1)] := hl
  unfold mX3_open at hh
  refine r_aload_n C.1 C.2.1 dX3_open_0 rfl (lv_at hl 0 rfl) ?_
  refine r_aload_n C.1 C.2.1 dX3_open_1 rfl (lv_at hl 1 rfl) ?_
  refine r_getI C hm flX3_38 dX3_open_2 hh (fun x1 _ hh => ?_)
  refine r_putI C hm hs flX3_27 (Or.inl fm_4_6) dX3_open_5 hh (fun h2 H locs _ hh hm hs => ?_)
  refine r_aload_n C.1 C.2.1 dX3_open_8 rfl (lv_at hl 0 rfl) ?_
  refine r_aload_n C.1 C.2.1 dX3_open_9 rfl (lv_at hl 1 rfl) ?_
  refine r_getI C hm flX3_41 dX3_open_10 hh (fun x3 _ hh => ?_)
  refine r_putI C hm hs flX3_31 (Or.inl fm_4_7) dX3_open_13 hh (fun h4 H locs _ hh hm hs => ?_)
  refine r_aload_n C.1 C.2.1 dX3_open_16 rfl (lv_at hl 0 rfl) ?_
  refine r_getR C hm flX3_34 dX3_open_17 hh (fun x5 _ hh => ?_)
  refine r_aload_n C.1 C.2.1 dX3_open_20 rfl (lv_at hl 1 rfl) ?_
  refine r_aload_n C.1 C.2.1 dX3_open_21 rfl (lv_at hl 0 rfl) ?_
  refine r_getR C hm flX3_9 dX3_open_22 hh (fun x6 _ hh => ?_)
  refine r_cV C X hm hs mlX3_42 mvX3_42 hh (vv := fun r => none) (hp := fun r => r) (fun b r hg => c_X2_countRows l G h4 b _ _ r hg) rfl rfl (Nat.le_of_ble_eq_true rfl) (Nat.le_of_ble_eq_true rfl) (Nat.le_of_ble_eq_true rfl) hl.1 dX3_open_25 (fun b8 r7 H locs hgr7 hh hm hs => ?_)
  refine W.eq (g2 := F0 m 28 ls []) rfl ?_
  exact r_vretW hQ C hr hm hs hh dX3_open_28
def mX3_differingCells_b68 (k30 : MHp → Nat → Int32 → Int32 → Int32 → Option (Int32 × MHp)) (h : MHp) (a0 : Nat) (v3 : Int32) (v4 : Int32) (v5 : Int32) : Option (Int32 × MHp) := k30 h a0 v3 v4 (v5 + 1)
def mX3_differingCells_l30 : Nat → MHp → Nat → Int32 → Int32 → Int32 → Option (Int32 × MHp)
  | 0, _, _, _, _, _ => none
  | n + 1, h, a0, v3, v4, v5 => (if 100 ≤ v5 then some (v4, h) else (gR 4 1 h (some a0)).bind fun x1 => (gAI 20 h x1 v5).bind fun x2 => (gR 4 2 h (some a0)).bind fun x3 => (gAI 20 h x3 v5).bind fun x4 => (mJ9_abs_0f7a4 h (x2 - x4)).bind fun r5 => (mX11_isWithin h r5 1 (v3 - 1)).bind fun r6 => (if r6 = 0 then mX3_differingCells_b68 (mX3_differingCells_l30 n) h a0 v3 v4 v5 else mX3_differingCells_b68 (mX3_differingCells_l30 n) h a0 v3 (v4 + 1) v5))
def mX3_differingCells (h : MHp) (a0 : Nat) (a1 : Option Nat) (a2 : Option Nat) (a3 : Int32) : Option (Int32 × MHp) := (gR 4 0 h (some a0)).bind fun x9 => (gR 4 1 h (some a0)).bind fun x10 => (rcv 3 h x9).bind fun b12 => (mX2_countRows h b12 a1 x10).bind fun r11 => (gR 4 0 r11 (some a0)).bind fun x13 => (gR 4 2 r11 (some a0)).bind fun x14 => (rcv 3 r11 x13).bind fun b16 => (mX2_countRows r11 b16 a2 x14).bind fun r15 => mX3_differingCells_l30 FUEL r15 a0 a3 0 0
set_option maxRecDepth 100000 in
set_option maxHeartbeats 4000000 in
theorem c_X3_differingCells (l : Launch) (G : Env0) (h : MHp) (a0 : Nat) (a1 : Option Nat) (a2 : Option Nat) (a3 : Int32) (res : Int32 × MHp) (hh : mX3_differingCells h a0 a1 a2 a3 = some res) : MG l yX3_differingCells cX3_differingCells 6 (some .int) 5 120 0 0 G h [.ref a0, va_rf a1, va_rf a2, .int a3] (some (.int res.1)) (res.2) := by
  refine MG_of (own := RX3) (plainFor_of_name (by decide)) rfl (by simp [lg_sl, va_cat, vc_i, vc_l, vc_r]) ?_
  intro p e s m args below meth c Q ls hQ C X hin hm hs hl hr
  have hl : lv_has ls 6 [(0, .ref a0), (1, va_rf a1), (2, va_rf a2), (3, .int a3)] := by simpa [lv_args, va_cat, vc_i, vc_l, vc_r] using hl
  have hl : lv_has ls 6 [(0, va_rf (some a0)), (1, va_rf a1), (2, va_rf a2), (3, .int a3)] := hl
  have B68 : ∀ (k30 : MHp → Nat → Int32 → Int32 → Int32 → Option (Int32 × MHp)), (∀ (h : MHp) (H : Heap) (locs : List Loc) (ls : Array Slot) (a0 : Nat) (v3 : Int32) (v4 : Int32) (v5 : Int32) , mHp (gD G) (gC G) (gB G) h H → va_S (fun q => gB G ≤ q) s.heap H locs → lv_has ls 6 [(0, va_rf (some a0)), (3, .int v3), (4, .int v4), (5, .int v5)] → k30 h a0 v3 v4 v5 = some res → W p l e ({ frames := 5, cells := 0, slots := 0, locals := 120 }) s m args below meth c H locs 0 0 Q (F0 m 30 ls [])) → ∀ (h : MHp) (H : Heap) (locs : List Loc) (ls : Array Slot) (a0 : Nat) (v3 : Int32) (v4 : Int32) (v5 : Int32) , mHp (gD G) (gC G) (gB G) h H → va_S (fun q => gB G ≤ q) s.heap H locs → lv_has ls 6 [(0, va_rf (some a0)), (3, .int v3), (4, .int v4), (5, .int v5)] → mX3_differingCells_b68 k30 h a0 v3 v4 v5 = some res → W p l e ({ frames := 5, cells := 0, slots := 0, locals := 120 }) s m args below meth c H locs 0 0 Q (F0 m 68 ls []) := by
    intro k30 hk30 h H locs ls a0 v3 v4 v5 hm hs hl hh
    unfold mX3_differingCells_b68 at hh
    refine lv_iinc (v := (v5 + 1)) (lv' := [(5, .int (v5 + 1)), (0, va_rf (some a0)), (3, .int v3), (4, .int v4)]) C.1 C.2.1 dX3_differingCells_68 hl (k := 3) rfl rfl (by decide) rfl (fun ls hl => ?_)
    refine lv_goto (tgt := 30) C.1 C.2.1 dX3_differingCells_71 (by decide) ?_
    exact hk30 _ _ _ _ _ _ _ _  hm hs (lv_sub hl [1, 2, 3, 0] rfl) hh
  have B30 : ∀ n : Nat, ∀ (h : MHp) (H : Heap) (locs : List Loc) (ls : Array Slot) (a0 : Nat) (v3 : Int32) (v4 : Int32) (v5 : Int32) , mHp (gD G) (gC G) (gB G) h H → va_S (fun q => gB G ≤ q) s.heap H locs → lv_has ls 6 [(0, va_rf (some a0)), (3, .int v3), (4, .int v4), (5, .int v5)] → mX3_differingCells_l30 n h a0 v3 v4 v5 = some res → W p l e ({ frames := 5, cells := 0, slots := 0, locals := 120 }) s m args below meth c H locs 0 0 Q (F0 m 30 ls []) := by
    intro n
    induction n with
    | zero => intro h H locs ls a0 v3 v4 v5 hm hs hl hh; cases hh
    | succ n ih =>
      intro h H locs ls a0 v3 v4 v5 hm hs hl hh
      unfold mX3_differingCells_l30 at hh
      refine lv_iload C.1 C.2.1 dX3_differingCells_30 (lv_at hl 3 rfl) ?_
      refine lv_bipush (v := 100) C.1 C.2.1 dX3_differingCells_32 (by decide) ?_
      refine lv_icmp_ge (tgt := 74) C.1 C.2.1 dX3_differingCells_34 (by decide) (fun c8 => ?_) (fun c8 => ?_)
      · rw [if_pos c8] at hh
        refine lv_iload C.1 C.2.1 dX3_differingCells_74 (lv_at hl 2 rfl) ?_
        exact r_iretW hQ C hr hm hs hh dX3_differingCells_76
      · rw [if_neg c8] at hh
        refine r_aload_n C.1 C.2.1 dX3_differingCells_37 rfl (lv_at hl 0 rfl) ?_
        refine r_getR C hm flX3_9 dX3_differingCells_38 hh (fun x1 _ hh => ?_)
        refine lv_iload C.1 C.2.1 dX3_differingCells_41 (lv_at hl 3 rfl) ?_
        refine r_ald C hm dX3_differingCells_43 hh (fun x2 _ hh => ?_)
        refine r_aload_n C.1 C.2.1 dX3_differingCells_44 rfl (lv_at hl 0 rfl) ?_
        refine r_getR C hm flX3_15 dX3_differingCells_45 hh (fun x3 _ hh => ?_)
        refine lv_iload C.1 C.2.1 dX3_differingCells_48 (lv_at hl 3 rfl) ?_
        refine r_ald C hm dX3_differingCells_50 hh (fun x4 _ hh => ?_)
        refine lv_isub C.1 C.2.1 dX3_differingCells_51 ?_
        refine r_cS C X hm hs mlX3_48 msX3_48 hh (vv := fun r => some (.int r)) (hp := fun r => h) (fun r hg => c_J9_abs_0f7a4 l G h _ r hg) rfl rfl (Nat.le_of_ble_eq_true rfl) (Nat.le_of_ble_eq_true rfl) (Nat.le_of_ble_eq_true rfl) hl.1 dX3_differingCells_52 (fun r5 H locs hgr5 hh hm hs => ?_)
        refine W.eq (g2 := F0 m 55 ls [.int r5]) rfl ?_
        refine lv_iconst (v := 1) C.1 C.2.1 dX3_differingCells_55 (by decide) ?_
        refine lv_iload_n C.1 C.2.1 dX3_differingCells_56 rfl (lv_at hl 1 rfl) ?_
        refine lv_iconst (v := 1) C.1 C.2.1 dX3_differingCells_57 (by decide) ?_
        refine lv_isub C.1 C.2.1 dX3_differingCells_58 ?_
        refine r_cS C X hm hs mlX3_54 msX3_54 hh (vv := fun r => some (.int r)) (hp := fun r => h) (fun r hg => c_X11_isWithin l G h _ _ _ r hg) rfl rfl (Nat.le_of_ble_eq_true rfl) (Nat.le_of_ble_eq_true rfl) (Nat.le_of_ble_eq_true rfl) hl.1 dX3_differingCells_59 (fun r6 H locs hgr6 hh hm hs => ?_)
        refine W.eq (g2 := F0 m 62 ls [.int r6]) rfl ?_
        refine lv_if_eq (tgt := 68) C.1 C.2.1 dX3_differingCells_62 (by decide) (fun c7 => ?_) (fun c7 => ?_)
        · rw [if_pos c7] at hh
          exact B68 _ ih _ _ _ _ _ _ _ _  hm hs (lv_sub hl [0, 1, 2, 3] rfl) hh
        · rw [if_neg c7] at hh
          refine lv_iinc (v := (v4 + 1)) (lv' := [(4, .int (v4 + 1)), (0, va_rf (some a0)), (3, .int v3), (5, .int v5)]) C.1 C.2.1 dX3_differingCells_65 hl (k := 2) rfl rfl (by decide) rfl (fun ls hl => ?_)
          exact B68 _ ih _ _ _ _ _ _ _ _  hm hs (lv_sub hl [1, 2, 0, 3] rfl) hh
  unfold mX3_differingCells at hh
  refine r_aload_n C.1 C.2.1 dX3_differingCells_0 rfl (lv_at hl 0 rfl) ?_
  refine r_getR C hm flX3_34 dX3_differingCells_1 hh (fun x9 _ hh => ?_)
  refine r_aload_n C.1 C.2.1 dX3_differingCells_4 rfl (lv_at hl 1 rfl) ?_
  refine r_aload_n C.1 C.2.1 dX3_differingCells_5 rfl (lv_at hl 0 rfl) ?_
  refine r_getR C hm flX3_9 dX3_differingCells_6 hh (fun x10 _ hh => ?_)
  refine r_cV C X hm hs mlX3_42 mvX3_42 hh (vv := fun r => none) (hp := fun r => r) (fun b r hg => c_X2_countRows l G h b _ _ r hg) rfl rfl (Nat.le_of_ble_eq_true rfl) (Nat.le_of_ble_eq_true rfl) (Nat.le_of_ble_eq_true rfl) hl.1 dX3_differingCells_9 (fun b12 r11 H locs hgr11 hh hm hs => ?_)
  refine W.eq (g2 := F0 m 12 ls []) rfl ?_
  refine r_aload_n C.1 C.2.1 dX3_differingCells_12 rfl (lv_at hl 0 rfl) ?_
  refine r_getR C hm flX3_34 dX3_differingCells_13 hh (fun x13 _ hh => ?_)
  refine r_aload_n C.1 C.2.1 dX3_differingCells_16 rfl (lv_at hl 2 rfl) ?_
  refine r_aload_n C.1 C.2.1 dX3_differingCells_17 rfl (lv_at hl 0 rfl) ?_
  refine r_getR C hm flX3_15 dX3_differingCells_18 hh (fun x14 _ hh => ?_)
  refine r_cV C X hm hs mlX3_42 mvX3_42 hh (vv := fun r => none) (hp := fun r => r) (fun b r hg => c_X2_countRows l G r11 b _ _ r hg) rfl rfl (Nat.le_of_ble_eq_true rfl) (Nat.le_of_ble_eq_true rfl) (Nat.le_of_ble_eq_true rfl) hl.1 dX3_differingCells_21 (fun b16 r15 H locs hgr15 hh hm hs => ?_)
  refine W.eq (g2 := F0 m 24 ls []) rfl ?_
  refine lv_iconst (v := 0) C.1 C.2.1 dX3_differingCells_24 (by decide) ?_
  refine lv_istore (i := 4) (lv' := [(4, .int 0), (0, va_rf (some a0)), (1, va_rf a1), (2, va_rf a2), (3, .int a3)]) C.1 C.2.1 dX3_differingCells_25 hl (by decide) rfl (fun ls hl => ?_)
  refine lv_iconst (v := 0) C.1 C.2.1 dX3_differingCells_27 (by decide) ?_
  refine lv_istore (i := 5) (lv' := [(5, .int 0), (4, .int 0), (0, va_rf (some a0)), (1, va_rf a1), (2, va_rf a2), (3, .int a3)]) C.1 C.2.1 dX3_differingCells_28 hl (by decide) rfl (fun ls hl => ?_)
  exact B30 FUEL _ _ _ _ _ _ _ _  hm hs (lv_sub hl [2, 5, 1, 0] rfl) hh
def mX3_shyCells_b50 (k5 : Nat → Int32 → Int64 → Int32 → Option (Int64)) (h : MHp) (a0 : Nat) (v1 : Int32) (v2 : Int64) (v4 : Int32) : Option (Int64) := k5 a0 v1 v2 (v4 + 1)
def mX3_shyCells_l5 (h : MHp) : Nat → Nat → Int32 → Int64 → Int32 → Option (Int64)
  | 0, _, _, _, _ => none
  | n + 1, a0, v1, v2, v4 => (gI 4 6 h (some a0)).bind fun x1 => (gI 4 7 h (some a0)).bind fun x2 => (if (x1 * x2) ≤ v4 then some v2 else (if 60 ≤ v4 then some v2 else (gR 4 1 h (some a0)).bind fun x3 => (gAI 20 h x3 v4).bind fun x4 => (mX11_isWithin h x4 1 (v1 - 1)).bind fun r5 => (if r5 = 0 then mX3_shyCells_b50 (mX3_shyCells_l5 h n) h a0 v1 v2 v4 else mX3_shyCells_b50 (mX3_shyCells_l5 h n) h a0 v1 (v2 ||| (1 <<< (v4.toInt64 &&& 63))) v4)))
def mX3_shyCells (h : MHp) (a0 : Nat) (a1 : Int32) : Option (Int64) := mX3_shyCells_l5 h FUEL a0 a1 0 0
set_option maxRecDepth 100000 in
set_option maxHeartbeats 4000000 in
theorem c_X3_shyCells (l : Launch) (G : Env0) (h : MHp) (a0 : Nat) (a1 : Int32) (res : Int64) (hh : mX3_shyCells h a0 a1 = some res) : MG l yX3_shyCells cX3_shyCells 5 (some .long) 1 22 0 0 G h [.ref a0, .int a1] (some (.long res)) (h) := by
  refine MG_of (own := RX3) (plainFor_of_name (by decide)) rfl (Nat.le_of_ble_eq_true rfl) ?_
  intro p e s m args below meth c Q ls hQ C X hin hm hs hl hr
  have hl : lv_has ls 5 [(0, va_rf (some a0)), (1, .int a1)] := hl
  have B50 : ∀ (k5 : Nat → Int32 → Int64 → Int32 → Option (Int64)), (∀ (H : Heap) (locs : List Loc) (ls : Array Slot) (a0 : Nat) (v1 : Int32) (v2 : Int64) (v4 : Int32) , mHp (gD G) (gC G) (gB G) h H → va_S (fun q => gB G ≤ q) s.heap H locs → lv_has ls 5 [(0, va_rf (some a0)), (1, .int v1), (2, .long v2), (4, .int v4)] → k5 a0 v1 v2 v4 = some res → W p l e ({ frames := 1, cells := 0, slots := 0, locals := 22 }) s m args below meth c H locs 0 0 Q (F0 m 5 ls [])) → ∀ (H : Heap) (locs : List Loc) (ls : Array Slot) (a0 : Nat) (v1 : Int32) (v2 : Int64) (v4 : Int32) , mHp (gD G) (gC G) (gB G) h H → va_S (fun q => gB G ≤ q) s.heap H locs → lv_has ls 5 [(0, va_rf (some a0)), (1, .int v1), (2, .long v2), (4, .int v4)] → mX3_shyCells_b50 k5 h a0 v1 v2 v4 = some res → W p l e ({ frames := 1, cells := 0, slots := 0, locals := 22 }) s m args below meth c H locs 0 0 Q (F0 m 50 ls []) := by
    intro k5 hk5 H locs ls a0 v1 v2 v4 hm hs hl hh
    unfold mX3_shyCells_b50 at hh
    refine lv_iinc (v := (v4 + 1)) (lv' := [(4, .int (v4 + 1)), (0, va_rf (some a0)), (1, .int v1), (2, .long v2)]) C.1 C.2.1 dX3_shyCells_50 hl (k := 3) rfl rfl (by decide) rfl (fun ls hl => ?_)
    refine lv_goto (tgt := 5) C.1 C.2.1 dX3_shyCells_53 (by decide) ?_
    exact hk5 _ _ _ _ _ _ _  hm hs (lv_sub hl [1, 2, 3, 0] rfl) hh
  have B5 : ∀ n : Nat, ∀ (H : Heap) (locs : List Loc) (ls : Array Slot) (a0 : Nat) (v1 : Int32) (v2 : Int64) (v4 : Int32) , mHp (gD G) (gC G) (gB G) h H → va_S (fun q => gB G ≤ q) s.heap H locs → lv_has ls 5 [(0, va_rf (some a0)), (1, .int v1), (2, .long v2), (4, .int v4)] → mX3_shyCells_l5 h n a0 v1 v2 v4 = some res → W p l e ({ frames := 1, cells := 0, slots := 0, locals := 22 }) s m args below meth c H locs 0 0 Q (F0 m 5 ls []) := by
    intro n
    induction n with
    | zero => intro H locs ls a0 v1 v2 v4 hm hs hl hh; cases hh
    | succ n ih =>
      intro H locs ls a0 v1 v2 v4 hm hs hl hh
      unfold mX3_shyCells_l5 at hh
      refine lv_iload C.1 C.2.1 dX3_shyCells_5 (lv_at hl 3 rfl) ?_
      refine r_aload_n C.1 C.2.1 dX3_shyCells_7 rfl (lv_at hl 0 rfl) ?_
      refine r_getI C hm flX3_27 dX3_shyCells_8 hh (fun x1 _ hh => ?_)
      refine r_aload_n C.1 C.2.1 dX3_shyCells_11 rfl (lv_at hl 0 rfl) ?_
      refine r_getI C hm flX3_31 dX3_shyCells_12 hh (fun x2 _ hh => ?_)
      refine lv_imul C.1 C.2.1 dX3_shyCells_15 ?_
      refine lv_icmp_ge (tgt := 56) C.1 C.2.1 dX3_shyCells_16 (by decide) (fun c8 => ?_) (fun c8 => ?_)
      · rw [if_pos c8] at hh
        refine lv_lload_n C.1 C.2.1 dX3_shyCells_56 rfl (lv_at hl 2 rfl) ?_
        exact r_lretP hQ C hr hm hs hh dX3_shyCells_57
      · rw [if_neg c8] at hh
        refine lv_iload C.1 C.2.1 dX3_shyCells_19 (lv_at hl 3 rfl) ?_
        refine lv_bipush (v := 60) C.1 C.2.1 dX3_shyCells_21 (by decide) ?_
        refine lv_icmp_ge (tgt := 56) C.1 C.2.1 dX3_shyCells_23 (by decide) (fun c7 => ?_) (fun c7 => ?_)
        · rw [if_pos c7] at hh
          refine lv_lload_n C.1 C.2.1 dX3_shyCells_56 rfl (lv_at hl 2 rfl) ?_
          exact r_lretP hQ C hr hm hs hh dX3_shyCells_57
        · rw [if_neg c7] at hh
          refine r_aload_n C.1 C.2.1 dX3_shyCells_26 rfl (lv_at hl 0 rfl) ?_
          refine r_getR C hm flX3_9 dX3_shyCells_27 hh (fun x3 _ hh => ?_)
          refine lv_iload C.1 C.2.1 dX3_shyCells_30 (lv_at hl 3 rfl) ?_
          refine r_ald C hm dX3_shyCells_32 hh (fun x4 _ hh => ?_)
          refine lv_iconst (v := 1) C.1 C.2.1 dX3_shyCells_33 (by decide) ?_
          refine lv_iload_n C.1 C.2.1 dX3_shyCells_34 rfl (lv_at hl 1 rfl) ?_
          refine lv_iconst (v := 1) C.1 C.2.1 dX3_shyCells_35 (by decide) ?_
          refine lv_isub C.1 C.2.1 dX3_shyCells_36 ?_
          refine r_cS C X hm hs mlX3_54 msX3_54 hh (vv := fun r => some (.int r)) (hp := fun r => h) (fun r hg => c_X11_isWithin l G h _ _ _ r hg) rfl rfl (Nat.le_of_ble_eq_true rfl) (Nat.le_of_ble_eq_true rfl) (Nat.le_of_ble_eq_true rfl) hl.1 dX3_shyCells_37 (fun r5 H locs hgr5 hh hm hs => ?_)
          refine W.eq (g2 := F0 m 40 ls [.int r5]) rfl ?_
          refine lv_if_eq (tgt := 50) C.1 C.2.1 dX3_shyCells_40 (by decide) (fun c6 => ?_) (fun c6 => ?_)
          · rw [if_pos c6] at hh
            exact B50 _ ih _ _ _ _ _ _ _  hm hs (lv_sub hl [0, 1, 2, 3] rfl) hh
          · rw [if_neg c6] at hh
            refine lv_lload_n C.1 C.2.1 dX3_shyCells_43 rfl (lv_at hl 2 rfl) ?_
            refine lv_lconst (v := 1) C.1 C.2.1 dX3_shyCells_44 (by decide) ?_
            refine lv_iload C.1 C.2.1 dX3_shyCells_45 (lv_at hl 3 rfl) ?_
            refine lv_lshl (v := (1 <<< (v4.toInt64 &&& 63))) C.1 C.2.1 dX3_shyCells_47 rfl ?_
            refine lv_lor C.1 C.2.1 dX3_shyCells_48 ?_
            refine lv_lstore_n (i := 2) (lv' := [(2, .long (v2 ||| (1 <<< (v4.toInt64 &&& 63)))), (0, va_rf (some a0)), (1, .int v1), (4, .int v4)]) C.1 C.2.1 dX3_shyCells_49 rfl hl (by decide) rfl (fun ls hl => ?_)
            exact B50 _ ih _ _ _ _ _ _ _  hm hs (lv_sub hl [1, 2, 0, 3] rfl) hh
  unfold mX3_shyCells at hh
  refine lv_lconst (v := 0) C.1 C.2.1 dX3_shyCells_0 (by decide) ?_
  refine lv_lstore_n (i := 2) (lv' := [(2, .long 0), (0, va_rf (some a0)), (1, .int a1)]) C.1 C.2.1 dX3_shyCells_1 rfl hl (by decide) rfl (fun ls hl => ?_)
  refine lv_iconst (v := 0) C.1 C.2.1 dX3_shyCells_2 (by decide) ?_
  refine lv_istore (i := 4) (lv' := [(4, .int 0), (2, .long 0), (0, va_rf (some a0)), (1, .int a1)]) C.1 C.2.1 dX3_shyCells_3 hl (by decide) rfl (fun ls hl => ?_)
  exact B5 FUEL _ _ _ _ _ _ _  hm hs (lv_sub hl [2, 3, 1, 0] rfl) hh
def mX3_cellBetween (h : MHp) (a0 : Nat) (a1 : Int32) (a2 : Int32) : Option (Int32) := (gI 4 6 h (some a0)).bind fun x1 => (if x1 ≤ a1 then (gI 4 7 h (some a0)).bind fun x2 => (gI 4 6 h (some a0)).bind fun x3 => some (((a2 * x2) + a1) - x3) else (gI 4 7 h (some a0)).bind fun x4 => (gI 4 6 h (some a0)).bind fun x5 => some (((a1 * x4) + a2) - x5))
set_option maxRecDepth 100000 in
set_option maxHeartbeats 4000000 in
theorem c_X3_cellBetween (l : Launch) (G : Env0) (h : MHp) (a0 : Nat) (a1 : Int32) (a2 : Int32) (res : Int32) (hh : mX3_cellBetween h a0 a1 a2 = some res) : MG l yX3_cellBetween cX3_cellBetween 3 (some .int) 0 0 0 0 G h [.ref a0, .int a1, .int a2] (some (.int res)) (h) := by
  refine MG_of (own := RX3) (plainFor_of_name (by decide)) rfl (Nat.le_of_ble_eq_true rfl) ?_
  intro p e s m args below meth c Q ls hQ C X hin hm hs hl hr
  have hl : lv_has ls 3 [(0, va_rf (some a0)), (1, .int a1), (2, .int a2)] := hl
  unfold mX3_cellBetween at hh
  refine lv_iload_n C.1 C.2.1 dX3_cellBetween_0 rfl (lv_at hl 1 rfl) ?_
  refine r_aload_n C.1 C.2.1 dX3_cellBetween_1 rfl (lv_at hl 0 rfl) ?_
  refine r_getI C hm flX3_27 dX3_cellBetween_2 hh (fun x1 _ hh => ?_)
  refine lv_icmp_ge (tgt := 24) C.1 C.2.1 dX3_cellBetween_5 (by decide) (fun c6 => ?_) (fun c6 => ?_)
  · rw [if_pos c6] at hh
    refine lv_iload_n C.1 C.2.1 dX3_cellBetween_24 rfl (lv_at hl 2 rfl) ?_
    refine r_aload_n C.1 C.2.1 dX3_cellBetween_25 rfl (lv_at hl 0 rfl) ?_
    refine r_getI C hm flX3_31 dX3_cellBetween_26 hh (fun x2 _ hh => ?_)
    refine lv_imul C.1 C.2.1 dX3_cellBetween_29 ?_
    refine lv_iload_n C.1 C.2.1 dX3_cellBetween_30 rfl (lv_at hl 1 rfl) ?_
    refine lv_iadd C.1 C.2.1 dX3_cellBetween_31 ?_
    refine r_aload_n C.1 C.2.1 dX3_cellBetween_32 rfl (lv_at hl 0 rfl) ?_
    refine r_getI C hm flX3_27 dX3_cellBetween_33 hh (fun x3 _ hh => ?_)
    refine lv_isub C.1 C.2.1 dX3_cellBetween_36 ?_
    exact r_iretP hQ C hr hm hs hh dX3_cellBetween_37
  · rw [if_neg c6] at hh
    refine lv_iload_n C.1 C.2.1 dX3_cellBetween_8 rfl (lv_at hl 1 rfl) ?_
    refine r_aload_n C.1 C.2.1 dX3_cellBetween_9 rfl (lv_at hl 0 rfl) ?_
    refine r_getI C hm flX3_31 dX3_cellBetween_10 hh (fun x4 _ hh => ?_)
    refine lv_imul C.1 C.2.1 dX3_cellBetween_13 ?_
    refine lv_iload_n C.1 C.2.1 dX3_cellBetween_14 rfl (lv_at hl 2 rfl) ?_
    refine lv_iadd C.1 C.2.1 dX3_cellBetween_15 ?_
    refine r_aload_n C.1 C.2.1 dX3_cellBetween_16 rfl (lv_at hl 0 rfl) ?_
    refine r_getI C hm flX3_27 dX3_cellBetween_17 hh (fun x5 _ hh => ?_)
    refine lv_isub C.1 C.2.1 dX3_cellBetween_20 ?_
    refine lv_goto (tgt := 37) C.1 C.2.1 dX3_cellBetween_21 (by decide) ?_
    exact r_iretP hQ C hr hm hs hh dX3_cellBetween_37
def mX3_countAt (h : MHp) (a0 : Nat) (a1 : Int32) : Option (Int32) := (if a1 < 0 then some 0 else (if 100 ≤ a1 then some 0 else (gR 4 3 h (some a0)).bind fun x1 => (gAI 20 h x1 a1).bind fun x2 => some x2))
set_option maxRecDepth 100000 in
set_option maxHeartbeats 4000000 in
theorem c_X3_countAt (l : Launch) (G : Env0) (h : MHp) (a0 : Nat) (a1 : Int32) (res : Int32) (hh : mX3_countAt h a0 a1 = some res) : MG l yX3_countAt cX3_countAt 2 (some .int) 0 0 0 0 G h [.ref a0, .int a1] (some (.int res)) (h) := by
  refine MG_of (own := RX3) (plainFor_of_name (by decide)) rfl (Nat.le_of_ble_eq_true rfl) ?_
  intro p e s m args below meth c Q ls hQ C X hin hm hs hl hr
  have hl : lv_has ls 2 [(0, va_rf (some a0)), (1, .int a1)] := hl
  unfold mX3_countAt at hh
  refine lv_iload_n C.1 C.2.1 dX3_countAt_0 rfl (lv_at hl 1 rfl) ?_
  refine lv_if_lt (tgt := 19) C.1 C.2.1 dX3_countAt_1 (by decide) (fun c4 => ?_) (fun c4 => ?_)
  · rw [if_pos c4] at hh
    refine lv_iconst (v := 0) C.1 C.2.1 dX3_countAt_19 (by decide) ?_
    exact r_iretP hQ C hr hm hs hh dX3_countAt_20
  · rw [if_neg c4] at hh
    refine lv_iload_n C.1 C.2.1 dX3_countAt_4 rfl (lv_at hl 1 rfl) ?_
    refine lv_bipush (v := 100) C.1 C.2.1 dX3_countAt_5 (by decide) ?_
    refine lv_icmp_ge (tgt := 19) C.1 C.2.1 dX3_countAt_7 (by decide) (fun c3 => ?_) (fun c3 => ?_)
    · rw [if_pos c3] at hh
      refine lv_iconst (v := 0) C.1 C.2.1 dX3_countAt_19 (by decide) ?_
      exact r_iretP hQ C hr hm hs hh dX3_countAt_20
    · rw [if_neg c3] at hh
      refine r_aload_n C.1 C.2.1 dX3_countAt_10 rfl (lv_at hl 0 rfl) ?_
      refine r_getR C hm flX3_18 dX3_countAt_11 hh (fun x1 _ hh => ?_)
      refine lv_iload_n C.1 C.2.1 dX3_countAt_14 rfl (lv_at hl 1 rfl) ?_
      refine r_ald C hm dX3_countAt_15 hh (fun x2 _ hh => ?_)
      refine lv_goto (tgt := 20) C.1 C.2.1 dX3_countAt_16 (by decide) ?_
      exact r_iretP hQ C hr hm hs hh dX3_countAt_20
def mX3_isNode (h : MHp) (a0 : Nat) (a1 : Int32) : Option (Int32) := (if a1 < 0 then some 0 else (gI 4 6 h (some a0)).bind fun x1 => (gI 4 7 h (some a0)).bind fun x2 => (if (x1 + x2) ≤ a1 then some 0 else (if 20 ≤ a1 then some 0 else some 1)))
set_option maxRecDepth 100000 in
set_option maxHeartbeats 4000000 in
theorem c_X3_isNode (l : Launch) (G : Env0) (h : MHp) (a0 : Nat) (a1 : Int32) (res : Int32) (hh : mX3_isNode h a0 a1 = some res) : MG l yX3_isNode cX3_isNode 2 (some .boolean) 0 0 0 0 G h [.ref a0, .int a1] (some (.int res)) (h) := by
  refine MG_of (own := RX3) (plainFor_of_name (by decide)) rfl (Nat.le_of_ble_eq_true rfl) ?_
  intro p e s m args below meth c Q ls hQ C X hin hm hs hl hr
  have hl : lv_has ls 2 [(0, va_rf (some a0)), (1, .int a1)] := hl
  unfold mX3_isNode at hh
  refine lv_iload_n C.1 C.2.1 dX3_isNode_0 rfl (lv_at hl 1 rfl) ?_
  refine lv_if_lt (tgt := 27) C.1 C.2.1 dX3_isNode_1 (by decide) (fun c5 => ?_) (fun c5 => ?_)
  · rw [if_pos c5] at hh
    refine lv_iconst (v := 0) C.1 C.2.1 dX3_isNode_27 (by decide) ?_
    exact r_bretP hQ C hr hm hs (by decide) hh dX3_isNode_28
  · rw [if_neg c5] at hh
    refine lv_iload_n C.1 C.2.1 dX3_isNode_4 rfl (lv_at hl 1 rfl) ?_
    refine r_aload_n C.1 C.2.1 dX3_isNode_5 rfl (lv_at hl 0 rfl) ?_
    refine r_getI C hm flX3_27 dX3_isNode_6 hh (fun x1 _ hh => ?_)
    refine r_aload_n C.1 C.2.1 dX3_isNode_9 rfl (lv_at hl 0 rfl) ?_
    refine r_getI C hm flX3_31 dX3_isNode_10 hh (fun x2 _ hh => ?_)
    refine lv_iadd C.1 C.2.1 dX3_isNode_13 ?_
    refine lv_icmp_ge (tgt := 27) C.1 C.2.1 dX3_isNode_14 (by decide) (fun c4 => ?_) (fun c4 => ?_)
    · rw [if_pos c4] at hh
      refine lv_iconst (v := 0) C.1 C.2.1 dX3_isNode_27 (by decide) ?_
      exact r_bretP hQ C hr hm hs (by decide) hh dX3_isNode_28
    · rw [if_neg c4] at hh
      refine lv_iload_n C.1 C.2.1 dX3_isNode_17 rfl (lv_at hl 1 rfl) ?_
      refine lv_bipush (v := 20) C.1 C.2.1 dX3_isNode_18 (by decide) ?_
      refine lv_icmp_ge (tgt := 27) C.1 C.2.1 dX3_isNode_20 (by decide) (fun c3 => ?_) (fun c3 => ?_)
      · rw [if_pos c3] at hh
        refine lv_iconst (v := 0) C.1 C.2.1 dX3_isNode_27 (by decide) ?_
        exact r_bretP hQ C hr hm hs (by decide) hh dX3_isNode_28
      · rw [if_neg c3] at hh
        refine lv_iconst (v := 1) C.1 C.2.1 dX3_isNode_23 (by decide) ?_
        refine lv_goto (tgt := 28) C.1 C.2.1 dX3_isNode_24 (by decide) ?_
        exact r_bretP hQ C hr hm hs (by decide) hh dX3_isNode_28
def mX3_loses_b13 (h : MHp) (v2 : Int32) (t0 : Int32) : Option (Int32) := (if t0 = v2 then some 1 else some 0)
def mX3_loses (h : MHp) (a0 : Nat) (a1 : Int32) (a2 : Int32) : Option (Int32) := (gI 4 6 h (some a0)).bind fun x2 => (if x2 ≤ a1 then mX3_loses_b13 h a2 0 else mX3_loses_b13 h a2 1)
set_option maxRecDepth 100000 in
set_option maxHeartbeats 4000000 in
theorem c_X3_loses (l : Launch) (G : Env0) (h : MHp) (a0 : Nat) (a1 : Int32) (a2 : Int32) (res : Int32) (hh : mX3_loses h a0 a1 a2 = some res) : MG l yX3_loses cX3_loses 3 (some .boolean) 0 0 0 0 G h [.ref a0, .int a1, .int a2] (some (.int res)) (h) := by
  refine MG_of (own := RX3) (plainFor_of_name (by decide)) rfl (Nat.le_of_ble_eq_true rfl) ?_
  intro p e s m args below meth c Q ls hQ C X hin hm hs hl hr
  have hl : lv_has ls 3 [(0, va_rf (some a0)), (1, .int a1), (2, .int a2)] := hl
  have B13 : ∀ (H : Heap) (locs : List Loc) (ls : Array Slot) (v2 : Int32) (t0 : Int32) , mHp (gD G) (gC G) (gB G) h H → va_S (fun q => gB G ≤ q) s.heap H locs → lv_has ls 3 [(2, .int v2)] → mX3_loses_b13 h v2 t0 = some res → W p l e ({ frames := 0, cells := 0, slots := 0, locals := 0 }) s m args below meth c H locs 0 0 Q (F0 m 13 ls [.int t0]) := by
    intro H locs ls v2 t0 hm hs hl hh
    unfold mX3_loses_b13 at hh
    refine lv_iload_n C.1 C.2.1 dX3_loses_13 rfl (lv_at hl 0 rfl) ?_
    refine lv_icmp_ne (tgt := 21) C.1 C.2.1 dX3_loses_14 (by decide) (fun c1 => ?_) (fun c1 => ?_)
    · rw [if_neg c1] at hh
      refine lv_iconst (v := 0) C.1 C.2.1 dX3_loses_21 (by decide) ?_
      exact r_bretP hQ C hr hm hs (by decide) hh dX3_loses_22
    · rw [if_pos c1] at hh
      refine lv_iconst (v := 1) C.1 C.2.1 dX3_loses_17 (by decide) ?_
      refine lv_goto (tgt := 22) C.1 C.2.1 dX3_loses_18 (by decide) ?_
      exact r_bretP hQ C hr hm hs (by decide) hh dX3_loses_22
  unfold mX3_loses at hh
  refine lv_iload_n C.1 C.2.1 dX3_loses_0 rfl (lv_at hl 1 rfl) ?_
  refine r_aload_n C.1 C.2.1 dX3_loses_1 rfl (lv_at hl 0 rfl) ?_
  refine r_getI C hm flX3_27 dX3_loses_2 hh (fun x2 _ hh => ?_)
  refine lv_icmp_ge (tgt := 12) C.1 C.2.1 dX3_loses_5 (by decide) (fun c3 => ?_) (fun c3 => ?_)
  · rw [if_pos c3] at hh
    refine lv_iconst (v := 0) C.1 C.2.1 dX3_loses_12 (by decide) ?_
    exact B13 _ _ _ _ _  hm hs (lv_sub hl [2] rfl) hh
  · rw [if_neg c3] at hh
    refine lv_iconst (v := 1) C.1 C.2.1 dX3_loses_8 (by decide) ?_
    refine lv_goto (tgt := 13) C.1 C.2.1 dX3_loses_9 (by decide) ?_
    exact B13 _ _ _ _ _  hm hs (lv_sub hl [2] rfl) hh
def mX3_findCircle_b244 (h : MHp) (a0 : Nat) (v2 : Int32) : Option (Int32 × MHp) := (gR 4 4 h (some a0)).bind fun x1 => (gAI 20 h x1 v2).bind fun x2 => (if x2 = (-1) then some (0, h) else some (1, h))
def mX3_findCircle_b238 (k54 : MHp → Nat → Int32 → Int64 → Int32 → Int32 → Int32 → Int32 → Option (Int32 × MHp)) (h : MHp) (a0 : Nat) (v2 : Int32) (v3 : Int64) (v5 : Int32) (v6 : Int32) (v7 : Int32) (v8 : Int32) : Option (Int32 × MHp) := k54 h a0 v2 v3 v5 v6 v7 (v8 + 1)
def mX3_findCircle_b232 (k54 : MHp → Nat → Int32 → Int64 → Int32 → Int32 → Int32 → Int32 → Option (Int32 × MHp)) (k133 : MHp → Nat → Int32 → Int64 → Int32 → Int32 → Int32 → Int32 → Int32 → Int32 → Int32 → Option (Int32 × MHp)) (h : MHp) (a0 : Nat) (v2 : Int32) (v3 : Int64) (v5 : Int32) (v6 : Int32) (v7 : Int32) (v8 : Int32) (v9 : Int32) (v10 : Int32) (v11 : Int32) : Option (Int32 × MHp) := k133 h a0 v2 v3 v5 v6 v7 v8 v9 v10 (v11 + 1)
def mX3_findCircle_b204 (k54 : MHp → Nat → Int32 → Int64 → Int32 → Int32 → Int32 → Int32 → Option (Int32 × MHp)) (k133 : MHp → Nat → Int32 → Int64 → Int32 → Int32 → Int32 → Int32 → Int32 → Int32 → Int32 → Option (Int32 × MHp)) (h : MHp) (a0 : Nat) (v2 : Int32) (v3 : Int64) (v5 : Int32) (v6 : Int32) (v7 : Int32) (v8 : Int32) (v9 : Int32) (v10 : Int32) (v11 : Int32) : Option (Int32 × MHp) := (if 20 ≤ v7 then mX3_findCircle_b232 k54 k133 h a0 v2 v3 v5 v6 v7 v8 v9 v10 v11 else (gR 4 4 h (some a0)).bind fun x4 => (pAI 20 h x4 v11 v9).bind fun h5 => (gR 4 5 h5 (some a0)).bind fun x6 => (pAI 20 h5 x6 v7 v11).bind fun h7 => mX3_findCircle_b232 k54 k133 h7 a0 v2 v3 v5 v6 (v7 + 1) v8 v9 v10 v11)
def mX3_findCircle_l133 (k54 : MHp → Nat → Int32 → Int64 → Int32 → Int32 → Int32 → Int32 → Option (Int32 × MHp)) : Nat → MHp → Nat → Int32 → Int64 → Int32 → Int32 → Int32 → Int32 → Int32 → Int32 → Int32 → Option (Int32 × MHp)
  | 0, _, _, _, _, _, _, _, _, _, _, _ => none
  | n + 1, h, a0, v2, v3, v5, v6, v7, v8, v9, v10, v11 => (if v10 ≤ v11 then mX3_findCircle_b238 k54 h a0 v2 v3 v5 v6 v7 v8 else (if 20 ≤ v11 then mX3_findCircle_b238 k54 h a0 v2 v3 v5 v6 v7 v8 else (rcv 4 h (some a0)).bind fun b10 => (mX3_cellBetween h b10 v9 v11).bind fun r9 => (gR 4 4 h (some a0)).bind fun x11 => (gAI 20 h x11 v11).bind fun x12 => (if x12 = (-1) then (if r9 = v6 then mX3_findCircle_b232 k54 (mX3_findCircle_l133 k54 n) h a0 v2 v3 v5 v6 v7 v8 v9 v10 v11 else (mX11_isLeftOut h r9 v3).bind fun r13 => (if r13 = 0 then mX3_findCircle_b232 k54 (mX3_findCircle_l133 k54 n) h a0 v2 v3 v5 v6 v7 v8 v9 v10 v11 else (rcv 4 h (some a0)).bind fun b15 => (mX3_loses h b15 v9 v5).bind fun r14 => (if r14 = 0 then mX3_findCircle_b204 k54 (mX3_findCircle_l133 k54 n) h a0 v2 v3 v5 v6 v7 v8 v9 v10 v11 else (rcv 4 h (some a0)).bind fun b17 => (mX3_countAt h b17 r9).bind fun r16 => (if r16 ≤ 0 then mX3_findCircle_b232 k54 (mX3_findCircle_l133 k54 n) h a0 v2 v3 v5 v6 v7 v8 v9 v10 v11 else mX3_findCircle_b204 k54 (mX3_findCircle_l133 k54 n) h a0 v2 v3 v5 v6 v7 v8 v9 v10 v11)))) else mX3_findCircle_b232 k54 (mX3_findCircle_l133 k54 n) h a0 v2 v3 v5 v6 v7 v8 v9 v10 v11)))
def mX3_findCircle_b131 (k54 : MHp → Nat → Int32 → Int64 → Int32 → Int32 → Int32 → Int32 → Option (Int32 × MHp)) (h : MHp) (a0 : Nat) (v2 : Int32) (v3 : Int64) (v5 : Int32) (v6 : Int32) (v7 : Int32) (v8 : Int32) (v9 : Int32) (v10 : Int32) (t0 : Int32) : Option (Int32 × MHp) := mX3_findCircle_l133 k54 FUEL h a0 v2 v3 v5 v6 v7 v8 v9 v10 t0
def mX3_findCircle_b112 (k54 : MHp → Nat → Int32 → Int64 → Int32 → Int32 → Int32 → Int32 → Option (Int32 × MHp)) (h : MHp) (a0 : Nat) (v2 : Int32) (v3 : Int64) (v5 : Int32) (v6 : Int32) (v7 : Int32) (v8 : Int32) (v9 : Int32) (t0 : Int32) : Option (Int32 × MHp) := (gI 4 6 h (some a0)).bind fun x25 => (if x25 ≤ v9 then mX3_findCircle_b131 k54 h a0 v2 v3 v5 v6 v7 v8 v9 t0 0 else (gI 4 6 h (some a0)).bind fun x26 => mX3_findCircle_b131 k54 h a0 v2 v3 v5 v6 v7 v8 v9 t0 x26)
def mX3_findCircle_l54 : Nat → MHp → Nat → Int32 → Int64 → Int32 → Int32 → Int32 → Int32 → Option (Int32 × MHp)
  | 0, _, _, _, _, _, _, _, _ => none
  | n + 1, h, a0, v2, v3, v5, v6, v7, v8 => (if v7 ≤ v8 then mX3_findCircle_b244 h a0 v2 else (if 20 ≤ v8 then mX3_findCircle_b244 h a0 v2 else (gR 4 4 h (some a0)).bind fun x28 => (gAI 20 h x28 v2).bind fun x29 => (if x29 = (-1) then (gR 4 5 h (some a0)).bind fun x30 => (gAI 20 h x30 v8).bind fun x31 => (gI 4 6 h (some a0)).bind fun x32 => (if x32 ≤ x31 then (gI 4 6 h (some a0)).bind fun x33 => mX3_findCircle_b112 (mX3_findCircle_l54 n) h a0 v2 v3 v5 v6 v7 v8 x31 x33 else (gI 4 6 h (some a0)).bind fun x34 => (gI 4 7 h (some a0)).bind fun x35 => mX3_findCircle_b112 (mX3_findCircle_l54 n) h a0 v2 v3 v5 v6 v7 v8 x31 (x34 + x35)) else mX3_findCircle_b244 h a0 v2)))
def mX3_findCircle (h : MHp) (a0 : Nat) (a1 : Int32) (a2 : Int32) (a3 : Int64) (a4 : Int32) : Option (Int32 × MHp) := (rcv 4 h (some a0)).bind fun b41 => (mX3_isNode h b41 a1).bind fun r40 => (if r40 = 0 then some (0, h) else (rcv 4 h (some a0)).bind fun b43 => (mX3_isNode h b43 a2).bind fun r42 => (if r42 = 0 then some (0, h) else (rcv 4 h (some a0)).bind fun b45 => (mX3_cellBetween h b45 a1 a2).bind fun r44 => (gR 4 4 h (some a0)).bind fun x46 => (mJ7_fill_53178 h x46 (-1)).bind fun r47 => (gR 4 4 r47 (some a0)).bind fun x48 => (pAI 20 r47 x48 a1 a1).bind fun h49 => (gR 4 5 h49 (some a0)).bind fun x50 => (pAI 20 h49 x50 0 a1).bind fun h51 => mX3_findCircle_l54 FUEL h51 a0 a2 a3 a4 r44 1 0))
set_option maxRecDepth 100000 in
set_option maxHeartbeats 4000000 in
theorem c_X3_findCircle (l : Launch) (G : Env0) (h : MHp) (a0 : Nat) (a1 : Int32) (a2 : Int32) (a3 : Int64) (a4 : Int32) (res : Int32 × MHp) (hh : mX3_findCircle h a0 a1 a2 a3 a4 = some res) : MG l yX3_findCircle cX3_findCircle 13 (some .boolean) 1 23 0 0 G h [.ref a0, .int a1, .int a2, .long a3, .int a4] (some (.int res.1)) (res.2) := by
  refine MG_of (own := RX3) (plainFor_of_name (by decide)) rfl (Nat.le_of_ble_eq_true rfl) ?_
  intro p e s m args below meth c Q ls hQ C X hin hm hs hl hr
  have hl : lv_has ls 13 [(0, va_rf (some a0)), (1, .int a1), (2, .int a2), (3, .long a3), (5, .int a4)] := hl
  have B244 : ∀ (h : MHp) (H : Heap) (locs : List Loc) (ls : Array Slot) (a0 : Nat) (v2 : Int32) , mHp (gD G) (gC G) (gB G) h H → va_S (fun q => gB G ≤ q) s.heap H locs → lv_has ls 13 [(0, va_rf (some a0)), (2, .int v2)] → mX3_findCircle_b244 h a0 v2 = some res → W p l e ({ frames := 1, cells := 0, slots := 0, locals := 23 }) s m args below meth c H locs 0 0 Q (F0 m 244 ls []) := by
    intro h H locs ls a0 v2 hm hs hl hh
    unfold mX3_findCircle_b244 at hh
    refine r_aload_n C.1 C.2.1 dX3_findCircle_244 rfl (lv_at hl 0 rfl) ?_
    refine r_getR C hm flX3_21 dX3_findCircle_245 hh (fun x1 _ hh => ?_)
    refine lv_iload_n C.1 C.2.1 dX3_findCircle_248 rfl (lv_at hl 1 rfl) ?_
    refine r_ald C hm dX3_findCircle_249 hh (fun x2 _ hh => ?_)
    refine lv_iconst (v := (-1)) C.1 C.2.1 dX3_findCircle_250 (by decide) ?_
    refine lv_icmp_eq (tgt := 258) C.1 C.2.1 dX3_findCircle_251 (by decide) (fun c3 => ?_) (fun c3 => ?_)
    · rw [if_pos c3] at hh
      refine lv_iconst (v := 0) C.1 C.2.1 dX3_findCircle_258 (by decide) ?_
      exact r_bretW hQ C hr hm hs (by decide) hh dX3_findCircle_259
    · rw [if_neg c3] at hh
      refine lv_iconst (v := 1) C.1 C.2.1 dX3_findCircle_254 (by decide) ?_
      refine lv_goto (tgt := 259) C.1 C.2.1 dX3_findCircle_255 (by decide) ?_
      exact r_bretW hQ C hr hm hs (by decide) hh dX3_findCircle_259
  have B238 : ∀ (k54 : MHp → Nat → Int32 → Int64 → Int32 → Int32 → Int32 → Int32 → Option (Int32 × MHp)), (∀ (h : MHp) (H : Heap) (locs : List Loc) (ls : Array Slot) (a0 : Nat) (v2 : Int32) (v3 : Int64) (v5 : Int32) (v6 : Int32) (v7 : Int32) (v8 : Int32) , mHp (gD G) (gC G) (gB G) h H → va_S (fun q => gB G ≤ q) s.heap H locs → lv_has ls 13 [(0, va_rf (some a0)), (2, .int v2), (3, .long v3), (5, .int v5), (6, .int v6), (7, .int v7), (8, .int v8)] → k54 h a0 v2 v3 v5 v6 v7 v8 = some res → W p l e ({ frames := 1, cells := 0, slots := 0, locals := 23 }) s m args below meth c H locs 0 0 Q (F0 m 54 ls [])) → ∀ (h : MHp) (H : Heap) (locs : List Loc) (ls : Array Slot) (a0 : Nat) (v2 : Int32) (v3 : Int64) (v5 : Int32) (v6 : Int32) (v7 : Int32) (v8 : Int32) , mHp (gD G) (gC G) (gB G) h H → va_S (fun q => gB G ≤ q) s.heap H locs → lv_has ls 13 [(0, va_rf (some a0)), (2, .int v2), (3, .long v3), (5, .int v5), (6, .int v6), (7, .int v7), (8, .int v8)] → mX3_findCircle_b238 k54 h a0 v2 v3 v5 v6 v7 v8 = some res → W p l e ({ frames := 1, cells := 0, slots := 0, locals := 23 }) s m args below meth c H locs 0 0 Q (F0 m 238 ls []) := by
    intro k54 hk54 h H locs ls a0 v2 v3 v5 v6 v7 v8 hm hs hl hh
    unfold mX3_findCircle_b238 at hh
    refine lv_iinc (v := (v8 + 1)) (lv' := [(8, .int (v8 + 1)), (0, va_rf (some a0)), (2, .int v2), (3, .long v3), (5, .int v5), (6, .int v6), (7, .int v7)]) C.1 C.2.1 dX3_findCircle_238 hl (k := 6) rfl rfl (by decide) rfl (fun ls hl => ?_)
    refine lv_goto (tgt := 54) C.1 C.2.1 dX3_findCircle_241 (by decide) ?_
    exact hk54 _ _ _ _ _ _ _ _ _ _ _  hm hs (lv_sub hl [1, 2, 3, 4, 5, 6, 0] rfl) hh
  have B232 : ∀ (k54 : MHp → Nat → Int32 → Int64 → Int32 → Int32 → Int32 → Int32 → Option (Int32 × MHp)), (∀ (h : MHp) (H : Heap) (locs : List Loc) (ls : Array Slot) (a0 : Nat) (v2 : Int32) (v3 : Int64) (v5 : Int32) (v6 : Int32) (v7 : Int32) (v8 : Int32) , mHp (gD G) (gC G) (gB G) h H → va_S (fun q => gB G ≤ q) s.heap H locs → lv_has ls 13 [(0, va_rf (some a0)), (2, .int v2), (3, .long v3), (5, .int v5), (6, .int v6), (7, .int v7), (8, .int v8)] → k54 h a0 v2 v3 v5 v6 v7 v8 = some res → W p l e ({ frames := 1, cells := 0, slots := 0, locals := 23 }) s m args below meth c H locs 0 0 Q (F0 m 54 ls [])) → ∀ (k133 : MHp → Nat → Int32 → Int64 → Int32 → Int32 → Int32 → Int32 → Int32 → Int32 → Int32 → Option (Int32 × MHp)), (∀ (h : MHp) (H : Heap) (locs : List Loc) (ls : Array Slot) (a0 : Nat) (v2 : Int32) (v3 : Int64) (v5 : Int32) (v6 : Int32) (v7 : Int32) (v8 : Int32) (v9 : Int32) (v10 : Int32) (v11 : Int32) , mHp (gD G) (gC G) (gB G) h H → va_S (fun q => gB G ≤ q) s.heap H locs → lv_has ls 13 [(0, va_rf (some a0)), (2, .int v2), (3, .long v3), (5, .int v5), (6, .int v6), (7, .int v7), (8, .int v8), (9, .int v9), (10, .int v10), (11, .int v11)] → k133 h a0 v2 v3 v5 v6 v7 v8 v9 v10 v11 = some res → W p l e ({ frames := 1, cells := 0, slots := 0, locals := 23 }) s m args below meth c H locs 0 0 Q (F0 m 133 ls [])) → ∀ (h : MHp) (H : Heap) (locs : List Loc) (ls : Array Slot) (a0 : Nat) (v2 : Int32) (v3 : Int64) (v5 : Int32) (v6 : Int32) (v7 : Int32) (v8 : Int32) (v9 : Int32) (v10 : Int32) (v11 : Int32) , mHp (gD G) (gC G) (gB G) h H → va_S (fun q => gB G ≤ q) s.heap H locs → lv_has ls 13 [(0, va_rf (some a0)), (2, .int v2), (3, .long v3), (5, .int v5), (6, .int v6), (7, .int v7), (8, .int v8), (9, .int v9), (10, .int v10), (11, .int v11)] → mX3_findCircle_b232 k54 k133 h a0 v2 v3 v5 v6 v7 v8 v9 v10 v11 = some res → W p l e ({ frames := 1, cells := 0, slots := 0, locals := 23 }) s m args below meth c H locs 0 0 Q (F0 m 232 ls []) := by
    intro k54 hk54 k133 hk133 h H locs ls a0 v2 v3 v5 v6 v7 v8 v9 v10 v11 hm hs hl hh
    unfold mX3_findCircle_b232 at hh
    refine lv_iinc (v := (v11 + 1)) (lv' := [(11, .int (v11 + 1)), (0, va_rf (some a0)), (2, .int v2), (3, .long v3), (5, .int v5), (6, .int v6), (7, .int v7), (8, .int v8), (9, .int v9), (10, .int v10)]) C.1 C.2.1 dX3_findCircle_232 hl (k := 9) rfl rfl (by decide) rfl (fun ls hl => ?_)
    refine lv_goto (tgt := 133) C.1 C.2.1 dX3_findCircle_235 (by decide) ?_
    exact hk133 _ _ _ _ _ _ _ _ _ _ _ _ _ _  hm hs (lv_sub hl [1, 2, 3, 4, 5, 6, 7, 8, 9, 0] rfl) hh
  have B204 : ∀ (k54 : MHp → Nat → Int32 → Int64 → Int32 → Int32 → Int32 → Int32 → Option (Int32 × MHp)), (∀ (h : MHp) (H : Heap) (locs : List Loc) (ls : Array Slot) (a0 : Nat) (v2 : Int32) (v3 : Int64) (v5 : Int32) (v6 : Int32) (v7 : Int32) (v8 : Int32) , mHp (gD G) (gC G) (gB G) h H → va_S (fun q => gB G ≤ q) s.heap H locs → lv_has ls 13 [(0, va_rf (some a0)), (2, .int v2), (3, .long v3), (5, .int v5), (6, .int v6), (7, .int v7), (8, .int v8)] → k54 h a0 v2 v3 v5 v6 v7 v8 = some res → W p l e ({ frames := 1, cells := 0, slots := 0, locals := 23 }) s m args below meth c H locs 0 0 Q (F0 m 54 ls [])) → ∀ (k133 : MHp → Nat → Int32 → Int64 → Int32 → Int32 → Int32 → Int32 → Int32 → Int32 → Int32 → Option (Int32 × MHp)), (∀ (h : MHp) (H : Heap) (locs : List Loc) (ls : Array Slot) (a0 : Nat) (v2 : Int32) (v3 : Int64) (v5 : Int32) (v6 : Int32) (v7 : Int32) (v8 : Int32) (v9 : Int32) (v10 : Int32) (v11 : Int32) , mHp (gD G) (gC G) (gB G) h H → va_S (fun q => gB G ≤ q) s.heap H locs → lv_has ls 13 [(0, va_rf (some a0)), (2, .int v2), (3, .long v3), (5, .int v5), (6, .int v6), (7, .int v7), (8, .int v8), (9, .int v9), (10, .int v10), (11, .int v11)] → k133 h a0 v2 v3 v5 v6 v7 v8 v9 v10 v11 = some res → W p l e ({ frames := 1, cells := 0, slots := 0, locals := 23 }) s m args below meth c H locs 0 0 Q (F0 m 133 ls [])) → ∀ (h : MHp) (H : Heap) (locs : List Loc) (ls : Array Slot) (a0 : Nat) (v2 : Int32) (v3 : Int64) (v5 : Int32) (v6 : Int32) (v7 : Int32) (v8 : Int32) (v9 : Int32) (v10 : Int32) (v11 : Int32) , mHp (gD G) (gC G) (gB G) h H → va_S (fun q => gB G ≤ q) s.heap H locs → lv_has ls 13 [(0, va_rf (some a0)), (2, .int v2), (3, .long v3), (5, .int v5), (6, .int v6), (7, .int v7), (8, .int v8), (9, .int v9), (10, .int v10), (11, .int v11)] → mX3_findCircle_b204 k54 k133 h a0 v2 v3 v5 v6 v7 v8 v9 v10 v11 = some res → W p l e ({ frames := 1, cells := 0, slots := 0, locals := 23 }) s m args below meth c H locs 0 0 Q (F0 m 204 ls []) := by
    intro k54 hk54 k133 hk133 h H locs ls a0 v2 v3 v5 v6 v7 v8 v9 v10 v11 hm hs hl hh
    unfold mX3_findCircle_b204 at hh
    refine lv_iload C.1 C.2.1 dX3_findCircle_204 (lv_at hl 5 rfl) ?_
    refine lv_bipush (v := 20) C.1 C.2.1 dX3_findCircle_206 (by decide) ?_
    refine lv_icmp_ge (tgt := 232) C.1 C.2.1 dX3_findCircle_208 (by decide) (fun c8 => ?_) (fun c8 => ?_)
    · rw [if_pos c8] at hh
      exact B232 _ hk54 _ hk133 _ _ _ _ _ _ _ _ _ _ _ _ _ _  hm hs (lv_sub hl [0, 1, 2, 3, 4, 5, 6, 7, 8, 9] rfl) hh
    · rw [if_neg c8] at hh
      refine r_aload_n C.1 C.2.1 dX3_findCircle_211 rfl (lv_at hl 0 rfl) ?_
      refine r_getR C hm flX3_21 dX3_findCircle_212 hh (fun x4 _ hh => ?_)
      refine lv_iload C.1 C.2.1 dX3_findCircle_215 (lv_at hl 9 rfl) ?_
      refine lv_iload C.1 C.2.1 dX3_findCircle_217 (lv_at hl 7 rfl) ?_
      refine r_ast C hm hs dX3_findCircle_219 hh (fun h5 H locs _ hh hm hs => ?_)
      refine r_aload_n C.1 C.2.1 dX3_findCircle_220 rfl (lv_at hl 0 rfl) ?_
      refine r_getR C hm flX3_24 dX3_findCircle_221 hh (fun x6 _ hh => ?_)
      refine lv_iload C.1 C.2.1 dX3_findCircle_224 (lv_at hl 5 rfl) ?_
      refine lv_iload C.1 C.2.1 dX3_findCircle_226 (lv_at hl 9 rfl) ?_
      refine r_ast C hm hs dX3_findCircle_228 hh (fun h7 H locs _ hh hm hs => ?_)
      refine lv_iinc (v := (v7 + 1)) (lv' := [(7, .int (v7 + 1)), (0, va_rf (some a0)), (2, .int v2), (3, .long v3), (5, .int v5), (6, .int v6), (8, .int v8), (9, .int v9), (10, .int v10), (11, .int v11)]) C.1 C.2.1 dX3_findCircle_229 hl (k := 5) rfl rfl (by decide) rfl (fun ls hl => ?_)
      exact B232 _ hk54 _ hk133 _ _ _ _ _ _ _ _ _ _ _ _ _ _  hm hs (lv_sub hl [1, 2, 3, 4, 5, 0, 6, 7, 8, 9] rfl) hh
  have B133 : ∀ (k54 : MHp → Nat → Int32 → Int64 → Int32 → Int32 → Int32 → Int32 → Option (Int32 × MHp)), (∀ (h : MHp) (H : Heap) (locs : List Loc) (ls : Array Slot) (a0 : Nat) (v2 : Int32) (v3 : Int64) (v5 : Int32) (v6 : Int32) (v7 : Int32) (v8 : Int32) , mHp (gD G) (gC G) (gB G) h H → va_S (fun q => gB G ≤ q) s.heap H locs → lv_has ls 13 [(0, va_rf (some a0)), (2, .int v2), (3, .long v3), (5, .int v5), (6, .int v6), (7, .int v7), (8, .int v8)] → k54 h a0 v2 v3 v5 v6 v7 v8 = some res → W p l e ({ frames := 1, cells := 0, slots := 0, locals := 23 }) s m args below meth c H locs 0 0 Q (F0 m 54 ls [])) → ∀ n : Nat, ∀ (h : MHp) (H : Heap) (locs : List Loc) (ls : Array Slot) (a0 : Nat) (v2 : Int32) (v3 : Int64) (v5 : Int32) (v6 : Int32) (v7 : Int32) (v8 : Int32) (v9 : Int32) (v10 : Int32) (v11 : Int32) , mHp (gD G) (gC G) (gB G) h H → va_S (fun q => gB G ≤ q) s.heap H locs → lv_has ls 13 [(0, va_rf (some a0)), (2, .int v2), (3, .long v3), (5, .int v5), (6, .int v6), (7, .int v7), (8, .int v8), (9, .int v9), (10, .int v10), (11, .int v11)] → mX3_findCircle_l133 k54 n h a0 v2 v3 v5 v6 v7 v8 v9 v10 v11 = some res → W p l e ({ frames := 1, cells := 0, slots := 0, locals := 23 }) s m args below meth c H locs 0 0 Q (F0 m 133 ls []) := by
    intro k54 hk54 n
    induction n with
    | zero => intro h H locs ls a0 v2 v3 v5 v6 v7 v8 v9 v10 v11 hm hs hl hh; cases hh
    | succ n ih =>
      intro h H locs ls a0 v2 v3 v5 v6 v7 v8 v9 v10 v11 hm hs hl hh
      unfold mX3_findCircle_l133 at hh
      refine lv_iload C.1 C.2.1 dX3_findCircle_133 (lv_at hl 9 rfl) ?_
      refine lv_iload C.1 C.2.1 dX3_findCircle_135 (lv_at hl 8 rfl) ?_
      refine lv_icmp_ge (tgt := 238) C.1 C.2.1 dX3_findCircle_137 (by decide) (fun c24 => ?_) (fun c24 => ?_)
      · rw [if_pos c24] at hh
        exact B238 _ hk54 _ _ _ _ _ _ _ _ _ _ _  hm hs (lv_sub hl [0, 1, 2, 3, 4, 5, 6] rfl) hh
      · rw [if_neg c24] at hh
        refine lv_iload C.1 C.2.1 dX3_findCircle_140 (lv_at hl 9 rfl) ?_
        refine lv_bipush (v := 20) C.1 C.2.1 dX3_findCircle_142 (by decide) ?_
        refine lv_icmp_ge (tgt := 238) C.1 C.2.1 dX3_findCircle_144 (by decide) (fun c23 => ?_) (fun c23 => ?_)
        · rw [if_pos c23] at hh
          exact B238 _ hk54 _ _ _ _ _ _ _ _ _ _ _  hm hs (lv_sub hl [0, 1, 2, 3, 4, 5, 6] rfl) hh
        · rw [if_neg c23] at hh
          refine r_aload_n C.1 C.2.1 dX3_findCircle_147 rfl (lv_at hl 0 rfl) ?_
          refine lv_iload C.1 C.2.1 dX3_findCircle_148 (lv_at hl 7 rfl) ?_
          refine lv_iload C.1 C.2.1 dX3_findCircle_150 (lv_at hl 9 rfl) ?_
          refine r_cV C X hm hs mlX3_107 mvX3_107 hh (vv := fun r => some (.int r)) (hp := fun r => h) (fun b r hg => c_X3_cellBetween l G h b _ _ r hg) rfl rfl (Nat.le_of_ble_eq_true rfl) (Nat.le_of_ble_eq_true rfl) (Nat.le_of_ble_eq_true rfl) hl.1 dX3_findCircle_152 (fun b10 r9 H locs hgr9 hh hm hs => ?_)
          refine W.eq (g2 := F0 m 155 ls [.int r9]) rfl ?_
          refine lv_istore (i := 12) (lv' := [(12, .int r9), (0, va_rf (some a0)), (2, .int v2), (3, .long v3), (5, .int v5), (6, .int v6), (7, .int v7), (8, .int v8), (9, .int v9), (10, .int v10), (11, .int v11)]) C.1 C.2.1 dX3_findCircle_155 hl (by decide) rfl (fun ls hl => ?_)
          refine r_aload_n C.1 C.2.1 dX3_findCircle_157 rfl (lv_at hl 1 rfl) ?_
          refine r_getR C hm flX3_21 dX3_findCircle_158 hh (fun x11 _ hh => ?_)
          refine lv_iload C.1 C.2.1 dX3_findCircle_161 (lv_at hl 10 rfl) ?_
          refine r_ald C hm dX3_findCircle_163 hh (fun x12 _ hh => ?_)
          refine lv_iconst (v := (-1)) C.1 C.2.1 dX3_findCircle_164 (by decide) ?_
          refine lv_icmp_ne (tgt := 232) C.1 C.2.1 dX3_findCircle_165 (by decide) (fun c22 => ?_) (fun c22 => ?_)
          · rw [if_neg c22] at hh
            exact B232 _ hk54 _ ih _ _ _ _ _ _ _ _ _ _ _ _ _ _  hm hs (lv_sub hl [1, 2, 3, 4, 5, 6, 7, 8, 9, 10] rfl) hh
          · rw [if_pos c22] at hh
            refine lv_iload C.1 C.2.1 dX3_findCircle_168 (lv_at hl 0 rfl) ?_
            refine lv_iload C.1 C.2.1 dX3_findCircle_170 (lv_at hl 5 rfl) ?_
            refine lv_icmp_eq (tgt := 232) C.1 C.2.1 dX3_findCircle_172 (by decide) (fun c21 => ?_) (fun c21 => ?_)
            · rw [if_pos c21] at hh
              exact B232 _ hk54 _ ih _ _ _ _ _ _ _ _ _ _ _ _ _ _  hm hs (lv_sub hl [1, 2, 3, 4, 5, 6, 7, 8, 9, 10] rfl) hh
            · rw [if_neg c21] at hh
              refine lv_iload C.1 C.2.1 dX3_findCircle_175 (lv_at hl 0 rfl) ?_
              refine lv_lload_n C.1 C.2.1 dX3_findCircle_177 rfl (lv_at hl 3 rfl) ?_
              refine r_cS C X hm hs mlX3_60 msX3_60 hh (vv := fun r => some (.int r)) (hp := fun r => h) (fun r hg => c_X11_isLeftOut l G h _ _ r hg) rfl rfl (Nat.le_of_ble_eq_true rfl) (Nat.le_of_ble_eq_true rfl) (Nat.le_of_ble_eq_true rfl) hl.1 dX3_findCircle_178 (fun r13 H locs hgr13 hh hm hs => ?_)
              refine W.eq (g2 := F0 m 181 ls [.int r13]) rfl ?_
              refine lv_if_eq (tgt := 232) C.1 C.2.1 dX3_findCircle_181 (by decide) (fun c20 => ?_) (fun c20 => ?_)
              · rw [if_pos c20] at hh
                exact B232 _ hk54 _ ih _ _ _ _ _ _ _ _ _ _ _ _ _ _  hm hs (lv_sub hl [1, 2, 3, 4, 5, 6, 7, 8, 9, 10] rfl) hh
              · rw [if_neg c20] at hh
                refine r_aload_n C.1 C.2.1 dX3_findCircle_184 rfl (lv_at hl 1 rfl) ?_
                refine lv_iload C.1 C.2.1 dX3_findCircle_185 (lv_at hl 8 rfl) ?_
                refine lv_iload C.1 C.2.1 dX3_findCircle_187 (lv_at hl 4 rfl) ?_
                refine r_cV C X hm hs mlX3_116 mvX3_116 hh (vv := fun r => some (.int r)) (hp := fun r => h) (fun b r hg => c_X3_loses l G h b _ _ r hg) rfl rfl (Nat.le_of_ble_eq_true rfl) (Nat.le_of_ble_eq_true rfl) (Nat.le_of_ble_eq_true rfl) hl.1 dX3_findCircle_189 (fun b15 r14 H locs hgr14 hh hm hs => ?_)
                refine W.eq (g2 := F0 m 192 ls [.int r14]) rfl ?_
                refine lv_if_eq (tgt := 204) C.1 C.2.1 dX3_findCircle_192 (by decide) (fun c19 => ?_) (fun c19 => ?_)
                · rw [if_pos c19] at hh
                  exact B204 _ hk54 _ ih _ _ _ _ _ _ _ _ _ _ _ _ _ _  hm hs (lv_sub hl [1, 2, 3, 4, 5, 6, 7, 8, 9, 10] rfl) hh
                · rw [if_neg c19] at hh
                  refine r_aload_n C.1 C.2.1 dX3_findCircle_195 rfl (lv_at hl 1 rfl) ?_
                  refine lv_iload C.1 C.2.1 dX3_findCircle_196 (lv_at hl 0 rfl) ?_
                  refine r_cV C X hm hs mlX3_120 mvX3_120 hh (vv := fun r => some (.int r)) (hp := fun r => h) (fun b r hg => c_X3_countAt l G h b _ r hg) rfl rfl (Nat.le_of_ble_eq_true rfl) (Nat.le_of_ble_eq_true rfl) (Nat.le_of_ble_eq_true rfl) hl.1 dX3_findCircle_198 (fun b17 r16 H locs hgr16 hh hm hs => ?_)
                  refine W.eq (g2 := F0 m 201 ls [.int r16]) rfl ?_
                  refine lv_if_le (tgt := 232) C.1 C.2.1 dX3_findCircle_201 (by decide) (fun c18 => ?_) (fun c18 => ?_)
                  · rw [if_pos c18] at hh
                    exact B232 _ hk54 _ ih _ _ _ _ _ _ _ _ _ _ _ _ _ _  hm hs (lv_sub hl [1, 2, 3, 4, 5, 6, 7, 8, 9, 10] rfl) hh
                  · rw [if_neg c18] at hh
                    exact B204 _ hk54 _ ih _ _ _ _ _ _ _ _ _ _ _ _ _ _  hm hs (lv_sub hl [1, 2, 3, 4, 5, 6, 7, 8, 9, 10] rfl) hh
  have B131 : ∀ (k54 : MHp → Nat → Int32 → Int64 → Int32 → Int32 → Int32 → Int32 → Option (Int32 × MHp)), (∀ (h : MHp) (H : Heap) (locs : List Loc) (ls : Array Slot) (a0 : Nat) (v2 : Int32) (v3 : Int64) (v5 : Int32) (v6 : Int32) (v7 : Int32) (v8 : Int32) , mHp (gD G) (gC G) (gB G) h H → va_S (fun q => gB G ≤ q) s.heap H locs → lv_has ls 13 [(0, va_rf (some a0)), (2, .int v2), (3, .long v3), (5, .int v5), (6, .int v6), (7, .int v7), (8, .int v8)] → k54 h a0 v2 v3 v5 v6 v7 v8 = some res → W p l e ({ frames := 1, cells := 0, slots := 0, locals := 23 }) s m args below meth c H locs 0 0 Q (F0 m 54 ls [])) → ∀ (h : MHp) (H : Heap) (locs : List Loc) (ls : Array Slot) (a0 : Nat) (v2 : Int32) (v3 : Int64) (v5 : Int32) (v6 : Int32) (v7 : Int32) (v8 : Int32) (v9 : Int32) (v10 : Int32) (t0 : Int32) , mHp (gD G) (gC G) (gB G) h H → va_S (fun q => gB G ≤ q) s.heap H locs → lv_has ls 13 [(0, va_rf (some a0)), (2, .int v2), (3, .long v3), (5, .int v5), (6, .int v6), (7, .int v7), (8, .int v8), (9, .int v9), (10, .int v10)] → mX3_findCircle_b131 k54 h a0 v2 v3 v5 v6 v7 v8 v9 v10 t0 = some res → W p l e ({ frames := 1, cells := 0, slots := 0, locals := 23 }) s m args below meth c H locs 0 0 Q (F0 m 131 ls [.int t0]) := by
    intro k54 hk54 h H locs ls a0 v2 v3 v5 v6 v7 v8 v9 v10 t0 hm hs hl hh
    unfold mX3_findCircle_b131 at hh
    refine lv_istore (i := 11) (lv' := [(11, .int t0), (0, va_rf (some a0)), (2, .int v2), (3, .long v3), (5, .int v5), (6, .int v6), (7, .int v7), (8, .int v8), (9, .int v9), (10, .int v10)]) C.1 C.2.1 dX3_findCircle_131 hl (by decide) rfl (fun ls hl => ?_)
    exact B133 _ hk54 FUEL _ _ _ _ _ _ _ _ _ _ _ _ _ _  hm hs (lv_sub hl [1, 2, 3, 4, 5, 6, 7, 8, 9, 0] rfl) hh
  have B112 : ∀ (k54 : MHp → Nat → Int32 → Int64 → Int32 → Int32 → Int32 → Int32 → Option (Int32 × MHp)), (∀ (h : MHp) (H : Heap) (locs : List Loc) (ls : Array Slot) (a0 : Nat) (v2 : Int32) (v3 : Int64) (v5 : Int32) (v6 : Int32) (v7 : Int32) (v8 : Int32) , mHp (gD G) (gC G) (gB G) h H → va_S (fun q => gB G ≤ q) s.heap H locs → lv_has ls 13 [(0, va_rf (some a0)), (2, .int v2), (3, .long v3), (5, .int v5), (6, .int v6), (7, .int v7), (8, .int v8)] → k54 h a0 v2 v3 v5 v6 v7 v8 = some res → W p l e ({ frames := 1, cells := 0, slots := 0, locals := 23 }) s m args below meth c H locs 0 0 Q (F0 m 54 ls [])) → ∀ (h : MHp) (H : Heap) (locs : List Loc) (ls : Array Slot) (a0 : Nat) (v2 : Int32) (v3 : Int64) (v5 : Int32) (v6 : Int32) (v7 : Int32) (v8 : Int32) (v9 : Int32) (t0 : Int32) , mHp (gD G) (gC G) (gB G) h H → va_S (fun q => gB G ≤ q) s.heap H locs → lv_has ls 13 [(0, va_rf (some a0)), (2, .int v2), (3, .long v3), (5, .int v5), (6, .int v6), (7, .int v7), (8, .int v8), (9, .int v9)] → mX3_findCircle_b112 k54 h a0 v2 v3 v5 v6 v7 v8 v9 t0 = some res → W p l e ({ frames := 1, cells := 0, slots := 0, locals := 23 }) s m args below meth c H locs 0 0 Q (F0 m 112 ls [.int t0]) := by
    intro k54 hk54 h H locs ls a0 v2 v3 v5 v6 v7 v8 v9 t0 hm hs hl hh
    unfold mX3_findCircle_b112 at hh
    refine lv_istore (i := 10) (lv' := [(10, .int t0), (0, va_rf (some a0)), (2, .int v2), (3, .long v3), (5, .int v5), (6, .int v6), (7, .int v7), (8, .int v8), (9, .int v9)]) C.1 C.2.1 dX3_findCircle_112 hl (by decide) rfl (fun ls hl => ?_)
    refine lv_iload C.1 C.2.1 dX3_findCircle_114 (lv_at hl 8 rfl) ?_
    refine r_aload_n C.1 C.2.1 dX3_findCircle_116 rfl (lv_at hl 1 rfl) ?_
    refine r_getI C hm flX3_27 dX3_findCircle_117 hh (fun x25 _ hh => ?_)
    refine lv_icmp_ge (tgt := 130) C.1 C.2.1 dX3_findCircle_120 (by decide) (fun c27 => ?_) (fun c27 => ?_)
    · rw [if_pos c27] at hh
      refine lv_iconst (v := 0) C.1 C.2.1 dX3_findCircle_130 (by decide) ?_
      exact B131 _ hk54 _ _ _ _ _ _ _ _ _ _ _ _ _ _  hm hs (lv_sub hl [1, 2, 3, 4, 5, 6, 7, 8, 0] rfl) hh
    · rw [if_neg c27] at hh
      refine r_aload_n C.1 C.2.1 dX3_findCircle_123 rfl (lv_at hl 1 rfl) ?_
      refine r_getI C hm flX3_27 dX3_findCircle_124 hh (fun x26 _ hh => ?_)
      refine lv_goto (tgt := 131) C.1 C.2.1 dX3_findCircle_127 (by decide) ?_
      exact B131 _ hk54 _ _ _ _ _ _ _ _ _ _ _ _ _ _  hm hs (lv_sub hl [1, 2, 3, 4, 5, 6, 7, 8, 0] rfl) hh
  have B54 : ∀ n : Nat, ∀ (h : MHp) (H : Heap) (locs : List Loc) (ls : Array Slot) (a0 : Nat) (v2 : Int32) (v3 : Int64) (v5 : Int32) (v6 : Int32) (v7 : Int32) (v8 : Int32) , mHp (gD G) (gC G) (gB G) h H → va_S (fun q => gB G ≤ q) s.heap H locs → lv_has ls 13 [(0, va_rf (some a0)), (2, .int v2), (3, .long v3), (5, .int v5), (6, .int v6), (7, .int v7), (8, .int v8)] → mX3_findCircle_l54 n h a0 v2 v3 v5 v6 v7 v8 = some res → W p l e ({ frames := 1, cells := 0, slots := 0, locals := 23 }) s m args below meth c H locs 0 0 Q (F0 m 54 ls []) := by
    intro n
    induction n with
    | zero => intro h H locs ls a0 v2 v3 v5 v6 v7 v8 hm hs hl hh; cases hh
    | succ n ih =>
      intro h H locs ls a0 v2 v3 v5 v6 v7 v8 hm hs hl hh
      unfold mX3_findCircle_l54 at hh
      refine lv_iload C.1 C.2.1 dX3_findCircle_54 (lv_at hl 6 rfl) ?_
      refine lv_iload C.1 C.2.1 dX3_findCircle_56 (lv_at hl 5 rfl) ?_
      refine lv_icmp_ge (tgt := 244) C.1 C.2.1 dX3_findCircle_58 (by decide) (fun c39 => ?_) (fun c39 => ?_)
      · rw [if_pos c39] at hh
        exact B244 _ _ _ _ _ _  hm hs (lv_sub hl [0, 1] rfl) hh
      · rw [if_neg c39] at hh
        refine lv_iload C.1 C.2.1 dX3_findCircle_61 (lv_at hl 6 rfl) ?_
        refine lv_bipush (v := 20) C.1 C.2.1 dX3_findCircle_63 (by decide) ?_
        refine lv_icmp_ge (tgt := 244) C.1 C.2.1 dX3_findCircle_65 (by decide) (fun c38 => ?_) (fun c38 => ?_)
        · rw [if_pos c38] at hh
          exact B244 _ _ _ _ _ _  hm hs (lv_sub hl [0, 1] rfl) hh
        · rw [if_neg c38] at hh
          refine r_aload_n C.1 C.2.1 dX3_findCircle_68 rfl (lv_at hl 0 rfl) ?_
          refine r_getR C hm flX3_21 dX3_findCircle_69 hh (fun x28 _ hh => ?_)
          refine lv_iload_n C.1 C.2.1 dX3_findCircle_72 rfl (lv_at hl 1 rfl) ?_
          refine r_ald C hm dX3_findCircle_73 hh (fun x29 _ hh => ?_)
          refine lv_iconst (v := (-1)) C.1 C.2.1 dX3_findCircle_74 (by decide) ?_
          refine lv_icmp_ne (tgt := 244) C.1 C.2.1 dX3_findCircle_75 (by decide) (fun c37 => ?_) (fun c37 => ?_)
          · rw [if_neg c37] at hh
            exact B244 _ _ _ _ _ _  hm hs (lv_sub hl [0, 1] rfl) hh
          · rw [if_pos c37] at hh
            refine r_aload_n C.1 C.2.1 dX3_findCircle_78 rfl (lv_at hl 0 rfl) ?_
            refine r_getR C hm flX3_24 dX3_findCircle_79 hh (fun x30 _ hh => ?_)
            refine lv_iload C.1 C.2.1 dX3_findCircle_82 (lv_at hl 6 rfl) ?_
            refine r_ald C hm dX3_findCircle_84 hh (fun x31 _ hh => ?_)
            refine lv_istore (i := 9) (lv' := [(9, .int x31), (0, va_rf (some a0)), (2, .int v2), (3, .long v3), (5, .int v5), (6, .int v6), (7, .int v7), (8, .int v8)]) C.1 C.2.1 dX3_findCircle_85 hl (by decide) rfl (fun ls hl => ?_)
            refine lv_iload C.1 C.2.1 dX3_findCircle_87 (lv_at hl 0 rfl) ?_
            refine r_aload_n C.1 C.2.1 dX3_findCircle_89 rfl (lv_at hl 1 rfl) ?_
            refine r_getI C hm flX3_27 dX3_findCircle_90 hh (fun x32 _ hh => ?_)
            refine lv_icmp_ge (tgt := 108) C.1 C.2.1 dX3_findCircle_93 (by decide) (fun c36 => ?_) (fun c36 => ?_)
            · rw [if_pos c36] at hh
              refine r_aload_n C.1 C.2.1 dX3_findCircle_108 rfl (lv_at hl 1 rfl) ?_
              refine r_getI C hm flX3_27 dX3_findCircle_109 hh (fun x33 _ hh => ?_)
              exact B112 _ ih _ _ _ _ _ _ _ _ _ _ _ _ _  hm hs (lv_sub hl [1, 2, 3, 4, 5, 6, 7, 0] rfl) hh
            · rw [if_neg c36] at hh
              refine r_aload_n C.1 C.2.1 dX3_findCircle_96 rfl (lv_at hl 1 rfl) ?_
              refine r_getI C hm flX3_27 dX3_findCircle_97 hh (fun x34 _ hh => ?_)
              refine r_aload_n C.1 C.2.1 dX3_findCircle_100 rfl (lv_at hl 1 rfl) ?_
              refine r_getI C hm flX3_31 dX3_findCircle_101 hh (fun x35 _ hh => ?_)
              refine lv_iadd C.1 C.2.1 dX3_findCircle_104 ?_
              refine lv_goto (tgt := 112) C.1 C.2.1 dX3_findCircle_105 (by decide) ?_
              exact B112 _ ih _ _ _ _ _ _ _ _ _ _ _ _ _  hm hs (lv_sub hl [1, 2, 3, 4, 5, 6, 7, 0] rfl) hh
  unfold mX3_findCircle at hh
  refine r_aload_n C.1 C.2.1 dX3_findCircle_0 rfl (lv_at hl 0 rfl) ?_
  refine lv_iload_n C.1 C.2.1 dX3_findCircle_1 rfl (lv_at hl 1 rfl) ?_
  refine r_cV C X hm hs mlX3_103 mvX3_103 hh (vv := fun r => some (.int r)) (hp := fun r => h) (fun b r hg => c_X3_isNode l G h b _ r hg) rfl rfl (Nat.le_of_ble_eq_true rfl) (Nat.le_of_ble_eq_true rfl) (Nat.le_of_ble_eq_true rfl) hl.1 dX3_findCircle_2 (fun b41 r40 H locs hgr40 hh hm hs => ?_)
  refine W.eq (g2 := F0 m 5 ls [.int r40]) rfl ?_
  refine lv_if_eq (tgt := 16) C.1 C.2.1 dX3_findCircle_5 (by decide) (fun c53 => ?_) (fun c53 => ?_)
  · rw [if_pos c53] at hh
    refine lv_iconst (v := 0) C.1 C.2.1 dX3_findCircle_16 (by decide) ?_
    exact r_bretW hQ C hr hm hs (by decide) hh dX3_findCircle_17
  · rw [if_neg c53] at hh
    refine r_aload_n C.1 C.2.1 dX3_findCircle_8 rfl (lv_at hl 0 rfl) ?_
    refine lv_iload_n C.1 C.2.1 dX3_findCircle_9 rfl (lv_at hl 2 rfl) ?_
    refine r_cV C X hm hs mlX3_103 mvX3_103 hh (vv := fun r => some (.int r)) (hp := fun r => h) (fun b r hg => c_X3_isNode l G h b _ r hg) rfl rfl (Nat.le_of_ble_eq_true rfl) (Nat.le_of_ble_eq_true rfl) (Nat.le_of_ble_eq_true rfl) hl.1 dX3_findCircle_10 (fun b43 r42 H locs hgr42 hh hm hs => ?_)
    refine W.eq (g2 := F0 m 13 ls [.int r42]) rfl ?_
    refine lv_if_ne (tgt := 18) C.1 C.2.1 dX3_findCircle_13 (by decide) (fun c52 => ?_) (fun c52 => ?_)
    · rw [if_neg c52] at hh
      refine r_aload_n C.1 C.2.1 dX3_findCircle_18 rfl (lv_at hl 0 rfl) ?_
      refine lv_iload_n C.1 C.2.1 dX3_findCircle_19 rfl (lv_at hl 1 rfl) ?_
      refine lv_iload_n C.1 C.2.1 dX3_findCircle_20 rfl (lv_at hl 2 rfl) ?_
      refine r_cV C X hm hs mlX3_107 mvX3_107 hh (vv := fun r => some (.int r)) (hp := fun r => h) (fun b r hg => c_X3_cellBetween l G h b _ _ r hg) rfl rfl (Nat.le_of_ble_eq_true rfl) (Nat.le_of_ble_eq_true rfl) (Nat.le_of_ble_eq_true rfl) hl.1 dX3_findCircle_21 (fun b45 r44 H locs hgr44 hh hm hs => ?_)
      refine W.eq (g2 := F0 m 24 ls [.int r44]) rfl ?_
      refine lv_istore (i := 6) (lv' := [(6, .int r44), (0, va_rf (some a0)), (1, .int a1), (2, .int a2), (3, .long a3), (5, .int a4)]) C.1 C.2.1 dX3_findCircle_24 hl (by decide) rfl (fun ls hl => ?_)
      refine r_aload_n C.1 C.2.1 dX3_findCircle_26 rfl (lv_at hl 1 rfl) ?_
      refine r_getR C hm flX3_21 dX3_findCircle_27 hh (fun x46 _ hh => ?_)
      refine lv_iconst (v := (-1)) C.1 C.2.1 dX3_findCircle_30 (by decide) ?_
      refine r_cS C X hm hs mlX3_110 msX3_110 hh (vv := fun r => none) (hp := fun r => r) (fun r hg => c_J7_fill_53178 l G h _ _ r hg) rfl rfl (Nat.le_of_ble_eq_true rfl) (Nat.le_of_ble_eq_true rfl) (Nat.le_of_ble_eq_true rfl) hl.1 dX3_findCircle_31 (fun r47 H locs hgr47 hh hm hs => ?_)
      refine W.eq (g2 := F0 m 34 ls []) rfl ?_
      refine r_aload_n C.1 C.2.1 dX3_findCircle_34 rfl (lv_at hl 1 rfl) ?_
      refine r_getR C hm flX3_21 dX3_findCircle_35 hh (fun x48 _ hh => ?_)
      refine lv_iload_n C.1 C.2.1 dX3_findCircle_38 rfl (lv_at hl 2 rfl) ?_
      refine lv_iload_n C.1 C.2.1 dX3_findCircle_39 rfl (lv_at hl 2 rfl) ?_
      refine r_ast C hm hs dX3_findCircle_40 hh (fun h49 H locs _ hh hm hs => ?_)
      refine r_aload_n C.1 C.2.1 dX3_findCircle_41 rfl (lv_at hl 1 rfl) ?_
      refine r_getR C hm flX3_24 dX3_findCircle_42 hh (fun x50 _ hh => ?_)
      refine lv_iconst (v := 0) C.1 C.2.1 dX3_findCircle_45 (by decide) ?_
      refine lv_iload_n C.1 C.2.1 dX3_findCircle_46 rfl (lv_at hl 2 rfl) ?_
      refine r_ast C hm hs dX3_findCircle_47 hh (fun h51 H locs _ hh hm hs => ?_)
      refine lv_iconst (v := 1) C.1 C.2.1 dX3_findCircle_48 (by decide) ?_
      refine lv_istore (i := 7) (lv' := [(7, .int 1), (6, .int r44), (0, va_rf (some a0)), (1, .int a1), (2, .int a2), (3, .long a3), (5, .int a4)]) C.1 C.2.1 dX3_findCircle_49 hl (by decide) rfl (fun ls hl => ?_)
      refine lv_iconst (v := 0) C.1 C.2.1 dX3_findCircle_51 (by decide) ?_
      refine lv_istore (i := 8) (lv' := [(8, .int 0), (7, .int 1), (6, .int r44), (0, va_rf (some a0)), (1, .int a1), (2, .int a2), (3, .long a3), (5, .int a4)]) C.1 C.2.1 dX3_findCircle_52 hl (by decide) rfl (fun ls hl => ?_)
      exact B54 FUEL _ _ _ _ _ _ _ _ _ _ _  hm hs (lv_sub hl [3, 5, 6, 7, 2, 1, 0] rfl) hh
    · rw [if_pos c52] at hh
      refine lv_iconst (v := 0) C.1 C.2.1 dX3_findCircle_16 (by decide) ?_
      exact r_bretW hQ C hr hm hs (by decide) hh dX3_findCircle_17
def mX3_change (h : MHp) (a0 : Nat) (a1 : Int32) (a2 : Int32) : Option (MHp) := (if a1 < 0 then some h else (if 100 ≤ a1 then some h else (gR 4 3 h (some a0)).bind fun x1 => (gAI 20 h x1 a1).bind fun x2 => (pAI 20 h x1 a1 (x2 + a2)).bind fun h3 => some h3))
set_option maxRecDepth 100000 in
set_option maxHeartbeats 4000000 in
theorem c_X3_change (l : Launch) (G : Env0) (h : MHp) (a0 : Nat) (a1 : Int32) (a2 : Int32) (res : MHp) (hh : mX3_change h a0 a1 a2 = some res) : MG l yX3_change cX3_change 3 none 0 0 0 0 G h [.ref a0, .int a1, .int a2] (none) (res) := by
  refine MG_of (own := RX3) (plainFor_of_name (by decide)) rfl (Nat.le_of_ble_eq_true rfl) ?_
  intro p e s m args below meth c Q ls hQ C X hin hm hs hl hr
  have hl : lv_has ls 3 [(0, va_rf (some a0)), (1, .int a1), (2, .int a2)] := hl
  unfold mX3_change at hh
  refine lv_iload_n C.1 C.2.1 dX3_change_0 rfl (lv_at hl 1 rfl) ?_
  refine lv_if_lt (tgt := 20) C.1 C.2.1 dX3_change_1 (by decide) (fun c5 => ?_) (fun c5 => ?_)
  · rw [if_pos c5] at hh
    exact r_vretW hQ C hr hm hs hh dX3_change_20
  · rw [if_neg c5] at hh
    refine lv_iload_n C.1 C.2.1 dX3_change_4 rfl (lv_at hl 1 rfl) ?_
    refine lv_bipush (v := 100) C.1 C.2.1 dX3_change_5 (by decide) ?_
    refine lv_icmp_ge (tgt := 20) C.1 C.2.1 dX3_change_7 (by decide) (fun c4 => ?_) (fun c4 => ?_)
    · rw [if_pos c4] at hh
      exact r_vretW hQ C hr hm hs hh dX3_change_20
    · rw [if_neg c4] at hh
      refine r_aload_n C.1 C.2.1 dX3_change_10 rfl (lv_at hl 0 rfl) ?_
      refine r_getR C hm flX3_18 dX3_change_11 hh (fun x1 _ hh => ?_)
      refine lv_iload_n C.1 C.2.1 dX3_change_14 rfl (lv_at hl 1 rfl) ?_
      refine lv_dup2_11 C.1 C.2.1 dX3_change_15 rfl (va_cat _) ?_
      refine r_ald C hm dX3_change_16 hh (fun x2 _ hh => ?_)
      refine lv_iload_n C.1 C.2.1 dX3_change_17 rfl (lv_at hl 2 rfl) ?_
      refine lv_iadd C.1 C.2.1 dX3_change_18 ?_
      refine r_ast C hm hs dX3_change_19 hh (fun h3 H locs _ hh hm hs => ?_)
      exact r_vretW hQ C hr hm hs hh dX3_change_20
def mX3_moveRound_b193 (h : MHp) (t0 : Option Nat) (t1 : Int32) (t2 : Int32) : Option (MHp) := (rcv 4 h t0).bind fun b2 => (mX3_change h b2 t1 t2).bind fun r1 => some r1
def mX3_moveRound_b178 (h : MHp) (a0 : Nat) (v3 : Int32) (v4 : Int32) (v5 : Int32) : Option (MHp) := (if v3 = 0 then mX3_moveRound_b193 h (some a0) v4 (-v5) else mX3_moveRound_b193 h (some a0) v4 v5)
def mX3_moveRound_b165 (k107 : MHp → Nat → Int32 → Int32 → Int32 → Int32 → Int32 → Int32 → Option (MHp)) (h : MHp) (a0 : Nat) (v1 : Int32) (v3 : Int32) (v4 : Int32) (v5 : Int32) (v6 : Int32) (v8 : Int32) (t0 : Option Nat) (t1 : Int32) (t2 : Int32) : Option (MHp) := (rcv 4 h t0).bind fun b5 => (mX3_change h b5 t1 t2).bind fun r4 => k107 r4 a0 v1 v3 v4 v5 (v6 + 1) v8
def mX3_moveRound_l107 : Nat → MHp → Nat → Int32 → Int32 → Int32 → Int32 → Int32 → Int32 → Option (MHp)
  | 0, _, _, _, _, _, _, _, _ => none
  | n + 1, h, a0, v1, v3, v4, v5, v6, v7 => (if 20 ≤ v6 then mX3_moveRound_b178 h a0 v3 v4 v5 else (if v7 = v1 then mX3_moveRound_b178 h a0 v3 v4 v5 else (rcv 4 h (some a0)).bind fun b7 => (mX3_isNode h b7 v7).bind fun r6 => (if r6 = 0 then mX3_moveRound_b178 h a0 v3 v4 v5 else (gR 4 4 h (some a0)).bind fun x8 => (gAI 20 h x8 v7).bind fun x9 => (rcv 4 h (some a0)).bind fun b11 => (mX3_cellBetween h b11 x9 v7).bind fun r10 => (rcv 4 h (some a0)).bind fun b13 => (mX3_loses h b13 x9 v3).bind fun r12 => (if r12 = 0 then mX3_moveRound_b165 (mX3_moveRound_l107 n) h a0 v1 v3 v4 v5 v6 x9 (some a0) r10 v5 else mX3_moveRound_b165 (mX3_moveRound_l107 n) h a0 v1 v3 v4 v5 v6 x9 (some a0) r10 (-v5)))))
def mX3_moveRound_b101 (h : MHp) (a0 : Nat) (v1 : Int32) (v2 : Int32) (v3 : Int32) (v4 : Int32) (v5 : Int32) : Option (MHp) := mX3_moveRound_l107 FUEL h a0 v1 v3 v4 v5 0 v2
def mX3_moveRound_b91 (k31 : MHp → Nat → Int32 → Int32 → Int32 → Int32 → Int32 → Int32 → Int32 → Option (MHp)) (h : MHp) (a0 : Nat) (v1 : Int32) (v2 : Int32) (v3 : Int32) (v4 : Int32) (v5 : Int32) (v6 : Int32) (v8 : Int32) : Option (MHp) := k31 h a0 v1 v2 v3 v4 v5 (v6 + 1) v8
def mX3_moveRound_l31 : Nat → MHp → Nat → Int32 → Int32 → Int32 → Int32 → Int32 → Int32 → Int32 → Option (MHp)
  | 0, _, _, _, _, _, _, _, _, _ => none
  | n + 1, h, a0, v1, v2, v3, v4, v5, v6, v7 => (if 20 ≤ v6 then mX3_moveRound_b101 h a0 v1 v2 v3 v4 v5 else (if v7 = v1 then mX3_moveRound_b101 h a0 v1 v2 v3 v4 v5 else (rcv 4 h (some a0)).bind fun b19 => (mX3_isNode h b19 v7).bind fun r18 => (if r18 = 0 then mX3_moveRound_b101 h a0 v1 v2 v3 v4 v5 else (gR 4 4 h (some a0)).bind fun x20 => (gAI 20 h x20 v7).bind fun x21 => (rcv 4 h (some a0)).bind fun b23 => (mX3_loses h b23 x21 v3).bind fun r22 => (if r22 = 0 then mX3_moveRound_b91 (mX3_moveRound_l31 n) h a0 v1 v2 v3 v4 v5 v6 x21 else (rcv 4 h (some a0)).bind fun b25 => (mX3_cellBetween h b25 x21 v7).bind fun r24 => (rcv 4 h (some a0)).bind fun b27 => (mX3_countAt h b27 r24).bind fun r26 => (mJ9_min_7cf53 h v5 r26).bind fun r28 => mX3_moveRound_b91 (mX3_moveRound_l31 n) h a0 v1 v2 v3 v4 r28 v6 x21))))
def mX3_moveRound_b23 (h : MHp) (a0 : Nat) (v1 : Int32) (v2 : Int32) (v3 : Int32) (v4 : Int32) (t0 : Int32) : Option (MHp) := mX3_moveRound_l31 FUEL h a0 v1 v2 v3 v4 t0 0 v2
def mX3_moveRound (h : MHp) (a0 : Nat) (a1 : Int32) (a2 : Int32) (a3 : Int32) : Option (MHp) := (rcv 4 h (some a0)).bind fun b34 => (mX3_cellBetween h b34 a1 a2).bind fun r33 => (if a3 = 0 then (rcv 4 h (some a0)).bind fun b36 => (mX3_countAt h b36 r33).bind fun r35 => mX3_moveRound_b23 h a0 a1 a2 a3 r33 r35 else mX3_moveRound_b23 h a0 a1 a2 a3 r33 60)
set_option maxRecDepth 100000 in
set_option maxHeartbeats 4000000 in
theorem c_X3_moveRound (l : Launch) (G : Env0) (h : MHp) (a0 : Nat) (a1 : Int32) (a2 : Int32) (a3 : Int32) (res : MHp) (hh : mX3_moveRound h a0 a1 a2 a3 = some res) : MG l yX3_moveRound cX3_moveRound 9 none 1 22 0 0 G h [.ref a0, .int a1, .int a2, .int a3] (none) (res) := by
  refine MG_of (own := RX3) (plainFor_of_name (by decide)) rfl (Nat.le_of_ble_eq_true rfl) ?_
  intro p e s m args below meth c Q ls hQ C X hin hm hs hl hr
  have hl : lv_has ls 9 [(0, va_rf (some a0)), (1, .int a1), (2, .int a2), (3, .int a3)] := hl
  have B193 : ∀ (h : MHp) (H : Heap) (locs : List Loc) (ls : Array Slot) (t0 : Option Nat) (t1 : Int32) (t2 : Int32) , mHp (gD G) (gC G) (gB G) h H → va_S (fun q => gB G ≤ q) s.heap H locs → lv_has ls 9 [] → mX3_moveRound_b193 h t0 t1 t2 = some res → W p l e ({ frames := 1, cells := 0, slots := 0, locals := 22 }) s m args below meth c H locs 0 0 Q (F0 m 193 ls [.int t2, .int t1, va_rf t0]) := by
    intro h H locs ls t0 t1 t2 hm hs hl hh
    unfold mX3_moveRound_b193 at hh
    refine r_cV C X hm hs mlX3_123 mvX3_123 hh (vv := fun r => none) (hp := fun r => r) (fun b r hg => c_X3_change l G h b _ _ r hg) rfl rfl (Nat.le_of_ble_eq_true rfl) (Nat.le_of_ble_eq_true rfl) (Nat.le_of_ble_eq_true rfl) hl.1 dX3_moveRound_193 (fun b2 r1 H locs hgr1 hh hm hs => ?_)
    refine W.eq (g2 := F0 m 196 ls []) rfl ?_
    exact r_vretW hQ C hr hm hs hh dX3_moveRound_196
  have B178 : ∀ (h : MHp) (H : Heap) (locs : List Loc) (ls : Array Slot) (a0 : Nat) (v3 : Int32) (v4 : Int32) (v5 : Int32) , mHp (gD G) (gC G) (gB G) h H → va_S (fun q => gB G ≤ q) s.heap H locs → lv_has ls 9 [(0, va_rf (some a0)), (3, .int v3), (4, .int v4), (5, .int v5)] → mX3_moveRound_b178 h a0 v3 v4 v5 = some res → W p l e ({ frames := 1, cells := 0, slots := 0, locals := 22 }) s m args below meth c H locs 0 0 Q (F0 m 178 ls []) := by
    intro h H locs ls a0 v3 v4 v5 hm hs hl hh
    unfold mX3_moveRound_b178 at hh
    refine r_aload_n C.1 C.2.1 dX3_moveRound_178 rfl (lv_at hl 0 rfl) ?_
    refine lv_iload C.1 C.2.1 dX3_moveRound_179 (lv_at hl 2 rfl) ?_
    refine lv_iload_n C.1 C.2.1 dX3_moveRound_181 rfl (lv_at hl 1 rfl) ?_
    refine lv_if_eq (tgt := 190) C.1 C.2.1 dX3_moveRound_182 (by decide) (fun c3 => ?_) (fun c3 => ?_)
    · rw [if_pos c3] at hh
      refine lv_iload C.1 C.2.1 dX3_moveRound_190 (lv_at hl 3 rfl) ?_
      refine lv_ineg C.1 C.2.1 dX3_moveRound_192 ?_
      exact B193 _ _ _ _ _ _ _  hm hs (lv_sub hl [] rfl) hh
    · rw [if_neg c3] at hh
      refine lv_iload C.1 C.2.1 dX3_moveRound_185 (lv_at hl 3 rfl) ?_
      refine lv_goto (tgt := 193) C.1 C.2.1 dX3_moveRound_187 (by decide) ?_
      exact B193 _ _ _ _ _ _ _  hm hs (lv_sub hl [] rfl) hh
  have B165 : ∀ (k107 : MHp → Nat → Int32 → Int32 → Int32 → Int32 → Int32 → Int32 → Option (MHp)), (∀ (h : MHp) (H : Heap) (locs : List Loc) (ls : Array Slot) (a0 : Nat) (v1 : Int32) (v3 : Int32) (v4 : Int32) (v5 : Int32) (v6 : Int32) (v7 : Int32) , mHp (gD G) (gC G) (gB G) h H → va_S (fun q => gB G ≤ q) s.heap H locs → lv_has ls 9 [(0, va_rf (some a0)), (1, .int v1), (3, .int v3), (4, .int v4), (5, .int v5), (6, .int v6), (7, .int v7)] → k107 h a0 v1 v3 v4 v5 v6 v7 = some res → W p l e ({ frames := 1, cells := 0, slots := 0, locals := 22 }) s m args below meth c H locs 0 0 Q (F0 m 107 ls [])) → ∀ (h : MHp) (H : Heap) (locs : List Loc) (ls : Array Slot) (a0 : Nat) (v1 : Int32) (v3 : Int32) (v4 : Int32) (v5 : Int32) (v6 : Int32) (v8 : Int32) (t0 : Option Nat) (t1 : Int32) (t2 : Int32) , mHp (gD G) (gC G) (gB G) h H → va_S (fun q => gB G ≤ q) s.heap H locs → lv_has ls 9 [(0, va_rf (some a0)), (1, .int v1), (3, .int v3), (4, .int v4), (5, .int v5), (6, .int v6), (8, .int v8)] → mX3_moveRound_b165 k107 h a0 v1 v3 v4 v5 v6 v8 t0 t1 t2 = some res → W p l e ({ frames := 1, cells := 0, slots := 0, locals := 22 }) s m args below meth c H locs 0 0 Q (F0 m 165 ls [.int t2, .int t1, va_rf t0]) := by
    intro k107 hk107 h H locs ls a0 v1 v3 v4 v5 v6 v8 t0 t1 t2 hm hs hl hh
    unfold mX3_moveRound_b165 at hh
    refine r_cV C X hm hs mlX3_123 mvX3_123 hh (vv := fun r => none) (hp := fun r => r) (fun b r hg => c_X3_change l G h b _ _ r hg) rfl rfl (Nat.le_of_ble_eq_true rfl) (Nat.le_of_ble_eq_true rfl) (Nat.le_of_ble_eq_true rfl) hl.1 dX3_moveRound_165 (fun b5 r4 H locs hgr4 hh hm hs => ?_)
    refine W.eq (g2 := F0 m 168 ls []) rfl ?_
    refine lv_iload C.1 C.2.1 dX3_moveRound_168 (lv_at hl 6 rfl) ?_
    refine lv_istore (i := 7) (lv' := [(7, .int v8), (0, va_rf (some a0)), (1, .int v1), (3, .int v3), (4, .int v4), (5, .int v5), (6, .int v6), (8, .int v8)]) C.1 C.2.1 dX3_moveRound_170 hl (by decide) rfl (fun ls hl => ?_)
    refine lv_iinc (v := (v6 + 1)) (lv' := [(6, .int (v6 + 1)), (7, .int v8), (0, va_rf (some a0)), (1, .int v1), (3, .int v3), (4, .int v4), (5, .int v5), (8, .int v8)]) C.1 C.2.1 dX3_moveRound_172 hl (k := 6) rfl rfl (by decide) rfl (fun ls hl => ?_)
    refine lv_goto (tgt := 107) C.1 C.2.1 dX3_moveRound_175 (by decide) ?_
    exact hk107 _ _ _ _ _ _ _ _ _ _ _  hm hs (lv_sub hl [2, 3, 4, 5, 6, 0, 1] rfl) hh
  have B107 : ∀ n : Nat, ∀ (h : MHp) (H : Heap) (locs : List Loc) (ls : Array Slot) (a0 : Nat) (v1 : Int32) (v3 : Int32) (v4 : Int32) (v5 : Int32) (v6 : Int32) (v7 : Int32) , mHp (gD G) (gC G) (gB G) h H → va_S (fun q => gB G ≤ q) s.heap H locs → lv_has ls 9 [(0, va_rf (some a0)), (1, .int v1), (3, .int v3), (4, .int v4), (5, .int v5), (6, .int v6), (7, .int v7)] → mX3_moveRound_l107 n h a0 v1 v3 v4 v5 v6 v7 = some res → W p l e ({ frames := 1, cells := 0, slots := 0, locals := 22 }) s m args below meth c H locs 0 0 Q (F0 m 107 ls []) := by
    intro n
    induction n with
    | zero => intro h H locs ls a0 v1 v3 v4 v5 v6 v7 hm hs hl hh; cases hh
    | succ n ih =>
      intro h H locs ls a0 v1 v3 v4 v5 v6 v7 hm hs hl hh
      unfold mX3_moveRound_l107 at hh
      refine lv_iload C.1 C.2.1 dX3_moveRound_107 (lv_at hl 5 rfl) ?_
      refine lv_bipush (v := 20) C.1 C.2.1 dX3_moveRound_109 (by decide) ?_
      refine lv_icmp_ge (tgt := 178) C.1 C.2.1 dX3_moveRound_111 (by decide) (fun c17 => ?_) (fun c17 => ?_)
      · rw [if_pos c17] at hh
        exact B178 _ _ _ _ _ _ _ _  hm hs (lv_sub hl [0, 2, 3, 4] rfl) hh
      · rw [if_neg c17] at hh
        refine lv_iload C.1 C.2.1 dX3_moveRound_114 (lv_at hl 6 rfl) ?_
        refine lv_iload_n C.1 C.2.1 dX3_moveRound_116 rfl (lv_at hl 1 rfl) ?_
        refine lv_icmp_eq (tgt := 178) C.1 C.2.1 dX3_moveRound_117 (by decide) (fun c16 => ?_) (fun c16 => ?_)
        · rw [if_pos c16] at hh
          exact B178 _ _ _ _ _ _ _ _  hm hs (lv_sub hl [0, 2, 3, 4] rfl) hh
        · rw [if_neg c16] at hh
          refine r_aload_n C.1 C.2.1 dX3_moveRound_120 rfl (lv_at hl 0 rfl) ?_
          refine lv_iload C.1 C.2.1 dX3_moveRound_121 (lv_at hl 6 rfl) ?_
          refine r_cV C X hm hs mlX3_103 mvX3_103 hh (vv := fun r => some (.int r)) (hp := fun r => h) (fun b r hg => c_X3_isNode l G h b _ r hg) rfl rfl (Nat.le_of_ble_eq_true rfl) (Nat.le_of_ble_eq_true rfl) (Nat.le_of_ble_eq_true rfl) hl.1 dX3_moveRound_123 (fun b7 r6 H locs hgr6 hh hm hs => ?_)
          refine W.eq (g2 := F0 m 126 ls [.int r6]) rfl ?_
          refine lv_if_eq (tgt := 178) C.1 C.2.1 dX3_moveRound_126 (by decide) (fun c15 => ?_) (fun c15 => ?_)
          · rw [if_pos c15] at hh
            exact B178 _ _ _ _ _ _ _ _  hm hs (lv_sub hl [0, 2, 3, 4] rfl) hh
          · rw [if_neg c15] at hh
            refine r_aload_n C.1 C.2.1 dX3_moveRound_129 rfl (lv_at hl 0 rfl) ?_
            refine r_getR C hm flX3_21 dX3_moveRound_130 hh (fun x8 _ hh => ?_)
            refine lv_iload C.1 C.2.1 dX3_moveRound_133 (lv_at hl 6 rfl) ?_
            refine r_ald C hm dX3_moveRound_135 hh (fun x9 _ hh => ?_)
            refine lv_istore (i := 8) (lv' := [(8, .int x9), (0, va_rf (some a0)), (1, .int v1), (3, .int v3), (4, .int v4), (5, .int v5), (6, .int v6), (7, .int v7)]) C.1 C.2.1 dX3_moveRound_136 hl (by decide) rfl (fun ls hl => ?_)
            refine r_aload_n C.1 C.2.1 dX3_moveRound_138 rfl (lv_at hl 1 rfl) ?_
            refine r_aload_n C.1 C.2.1 dX3_moveRound_139 rfl (lv_at hl 1 rfl) ?_
            refine lv_iload C.1 C.2.1 dX3_moveRound_140 (lv_at hl 0 rfl) ?_
            refine lv_iload C.1 C.2.1 dX3_moveRound_142 (lv_at hl 7 rfl) ?_
            refine r_cV C X hm hs mlX3_107 mvX3_107 hh (vv := fun r => some (.int r)) (hp := fun r => h) (fun b r hg => c_X3_cellBetween l G h b _ _ r hg) rfl rfl (by simp [va_cat, vc_i, vc_l, vc_r]) (Nat.le_of_ble_eq_true rfl) (Nat.le_of_ble_eq_true rfl) hl.1 dX3_moveRound_144 (fun b11 r10 H locs hgr10 hh hm hs => ?_)
            refine W.eq (g2 := F0 m 147 ls [.int r10, va_rf (some a0)]) rfl ?_
            refine r_aload_n C.1 C.2.1 dX3_moveRound_147 rfl (lv_at hl 1 rfl) ?_
            refine lv_iload C.1 C.2.1 dX3_moveRound_148 (lv_at hl 0 rfl) ?_
            refine lv_iload_n C.1 C.2.1 dX3_moveRound_150 rfl (lv_at hl 3 rfl) ?_
            refine r_cV C X hm hs mlX3_116 mvX3_116 hh (vv := fun r => some (.int r)) (hp := fun r => h) (fun b r hg => c_X3_loses l G h b _ _ r hg) rfl rfl (by simp [va_cat, vc_i, vc_l, vc_r]) (Nat.le_of_ble_eq_true rfl) (Nat.le_of_ble_eq_true rfl) hl.1 dX3_moveRound_151 (fun b13 r12 H locs hgr12 hh hm hs => ?_)
            refine W.eq (g2 := F0 m 154 ls [.int r12, .int r10, va_rf (some a0)]) rfl ?_
            refine lv_if_eq (tgt := 163) C.1 C.2.1 dX3_moveRound_154 (by decide) (fun c14 => ?_) (fun c14 => ?_)
            · rw [if_pos c14] at hh
              refine lv_iload C.1 C.2.1 dX3_moveRound_163 (lv_at hl 5 rfl) ?_
              exact B165 _ ih _ _ _ _ _ _ _ _ _ _ _ _ _ _  hm hs (lv_sub hl [1, 2, 3, 4, 5, 6, 0] rfl) hh
            · rw [if_neg c14] at hh
              refine lv_iload C.1 C.2.1 dX3_moveRound_157 (lv_at hl 5 rfl) ?_
              refine lv_ineg C.1 C.2.1 dX3_moveRound_159 ?_
              refine lv_goto (tgt := 165) C.1 C.2.1 dX3_moveRound_160 (by decide) ?_
              exact B165 _ ih _ _ _ _ _ _ _ _ _ _ _ _ _ _  hm hs (lv_sub hl [1, 2, 3, 4, 5, 6, 0] rfl) hh
  have B101 : ∀ (h : MHp) (H : Heap) (locs : List Loc) (ls : Array Slot) (a0 : Nat) (v1 : Int32) (v2 : Int32) (v3 : Int32) (v4 : Int32) (v5 : Int32) , mHp (gD G) (gC G) (gB G) h H → va_S (fun q => gB G ≤ q) s.heap H locs → lv_has ls 9 [(0, va_rf (some a0)), (1, .int v1), (2, .int v2), (3, .int v3), (4, .int v4), (5, .int v5)] → mX3_moveRound_b101 h a0 v1 v2 v3 v4 v5 = some res → W p l e ({ frames := 1, cells := 0, slots := 0, locals := 22 }) s m args below meth c H locs 0 0 Q (F0 m 101 ls []) := by
    intro h H locs ls a0 v1 v2 v3 v4 v5 hm hs hl hh
    unfold mX3_moveRound_b101 at hh
    refine lv_iconst (v := 0) C.1 C.2.1 dX3_moveRound_101 (by decide) ?_
    refine lv_istore (i := 6) (lv' := [(6, .int 0), (0, va_rf (some a0)), (1, .int v1), (2, .int v2), (3, .int v3), (4, .int v4), (5, .int v5)]) C.1 C.2.1 dX3_moveRound_102 hl (by decide) rfl (fun ls hl => ?_)
    refine lv_iload_n C.1 C.2.1 dX3_moveRound_104 rfl (lv_at hl 3 rfl) ?_
    refine lv_istore (i := 7) (lv' := [(7, .int v2), (6, .int 0), (0, va_rf (some a0)), (1, .int v1), (2, .int v2), (3, .int v3), (4, .int v4), (5, .int v5)]) C.1 C.2.1 dX3_moveRound_105 hl (by decide) rfl (fun ls hl => ?_)
    exact B107 FUEL _ _ _ _ _ _ _ _ _ _ _  hm hs (lv_sub hl [2, 3, 5, 6, 7, 1, 0] rfl) hh
  have B91 : ∀ (k31 : MHp → Nat → Int32 → Int32 → Int32 → Int32 → Int32 → Int32 → Int32 → Option (MHp)), (∀ (h : MHp) (H : Heap) (locs : List Loc) (ls : Array Slot) (a0 : Nat) (v1 : Int32) (v2 : Int32) (v3 : Int32) (v4 : Int32) (v5 : Int32) (v6 : Int32) (v7 : Int32) , mHp (gD G) (gC G) (gB G) h H → va_S (fun q => gB G ≤ q) s.heap H locs → lv_has ls 9 [(0, va_rf (some a0)), (1, .int v1), (2, .int v2), (3, .int v3), (4, .int v4), (5, .int v5), (6, .int v6), (7, .int v7)] → k31 h a0 v1 v2 v3 v4 v5 v6 v7 = some res → W p l e ({ frames := 1, cells := 0, slots := 0, locals := 22 }) s m args below meth c H locs 0 0 Q (F0 m 31 ls [])) → ∀ (h : MHp) (H : Heap) (locs : List Loc) (ls : Array Slot) (a0 : Nat) (v1 : Int32) (v2 : Int32) (v3 : Int32) (v4 : Int32) (v5 : Int32) (v6 : Int32) (v8 : Int32) , mHp (gD G) (gC G) (gB G) h H → va_S (fun q => gB G ≤ q) s.heap H locs → lv_has ls 9 [(0, va_rf (some a0)), (1, .int v1), (2, .int v2), (3, .int v3), (4, .int v4), (5, .int v5), (6, .int v6), (8, .int v8)] → mX3_moveRound_b91 k31 h a0 v1 v2 v3 v4 v5 v6 v8 = some res → W p l e ({ frames := 1, cells := 0, slots := 0, locals := 22 }) s m args below meth c H locs 0 0 Q (F0 m 91 ls []) := by
    intro k31 hk31 h H locs ls a0 v1 v2 v3 v4 v5 v6 v8 hm hs hl hh
    unfold mX3_moveRound_b91 at hh
    refine lv_iload C.1 C.2.1 dX3_moveRound_91 (lv_at hl 7 rfl) ?_
    refine lv_istore (i := 7) (lv' := [(7, .int v8), (0, va_rf (some a0)), (1, .int v1), (2, .int v2), (3, .int v3), (4, .int v4), (5, .int v5), (6, .int v6), (8, .int v8)]) C.1 C.2.1 dX3_moveRound_93 hl (by decide) rfl (fun ls hl => ?_)
    refine lv_iinc (v := (v6 + 1)) (lv' := [(6, .int (v6 + 1)), (7, .int v8), (0, va_rf (some a0)), (1, .int v1), (2, .int v2), (3, .int v3), (4, .int v4), (5, .int v5), (8, .int v8)]) C.1 C.2.1 dX3_moveRound_95 hl (k := 7) rfl rfl (by decide) rfl (fun ls hl => ?_)
    refine lv_goto (tgt := 31) C.1 C.2.1 dX3_moveRound_98 (by decide) ?_
    exact hk31 _ _ _ _ _ _ _ _ _ _ _ _  hm hs (lv_sub hl [2, 3, 4, 5, 6, 7, 0, 1] rfl) hh
  have B31 : ∀ n : Nat, ∀ (h : MHp) (H : Heap) (locs : List Loc) (ls : Array Slot) (a0 : Nat) (v1 : Int32) (v2 : Int32) (v3 : Int32) (v4 : Int32) (v5 : Int32) (v6 : Int32) (v7 : Int32) , mHp (gD G) (gC G) (gB G) h H → va_S (fun q => gB G ≤ q) s.heap H locs → lv_has ls 9 [(0, va_rf (some a0)), (1, .int v1), (2, .int v2), (3, .int v3), (4, .int v4), (5, .int v5), (6, .int v6), (7, .int v7)] → mX3_moveRound_l31 n h a0 v1 v2 v3 v4 v5 v6 v7 = some res → W p l e ({ frames := 1, cells := 0, slots := 0, locals := 22 }) s m args below meth c H locs 0 0 Q (F0 m 31 ls []) := by
    intro n
    induction n with
    | zero => intro h H locs ls a0 v1 v2 v3 v4 v5 v6 v7 hm hs hl hh; cases hh
    | succ n ih =>
      intro h H locs ls a0 v1 v2 v3 v4 v5 v6 v7 hm hs hl hh
      unfold mX3_moveRound_l31 at hh
      refine lv_iload C.1 C.2.1 dX3_moveRound_31 (lv_at hl 6 rfl) ?_
      refine lv_bipush (v := 20) C.1 C.2.1 dX3_moveRound_33 (by decide) ?_
      refine lv_icmp_ge (tgt := 101) C.1 C.2.1 dX3_moveRound_35 (by decide) (fun c32 => ?_) (fun c32 => ?_)
      · rw [if_pos c32] at hh
        exact B101 _ _ _ _ _ _ _ _ _ _  hm hs (lv_sub hl [0, 1, 2, 3, 4, 5] rfl) hh
      · rw [if_neg c32] at hh
        refine lv_iload C.1 C.2.1 dX3_moveRound_38 (lv_at hl 7 rfl) ?_
        refine lv_iload_n C.1 C.2.1 dX3_moveRound_40 rfl (lv_at hl 1 rfl) ?_
        refine lv_icmp_eq (tgt := 101) C.1 C.2.1 dX3_moveRound_41 (by decide) (fun c31 => ?_) (fun c31 => ?_)
        · rw [if_pos c31] at hh
          exact B101 _ _ _ _ _ _ _ _ _ _  hm hs (lv_sub hl [0, 1, 2, 3, 4, 5] rfl) hh
        · rw [if_neg c31] at hh
          refine r_aload_n C.1 C.2.1 dX3_moveRound_44 rfl (lv_at hl 0 rfl) ?_
          refine lv_iload C.1 C.2.1 dX3_moveRound_45 (lv_at hl 7 rfl) ?_
          refine r_cV C X hm hs mlX3_103 mvX3_103 hh (vv := fun r => some (.int r)) (hp := fun r => h) (fun b r hg => c_X3_isNode l G h b _ r hg) rfl rfl (Nat.le_of_ble_eq_true rfl) (Nat.le_of_ble_eq_true rfl) (Nat.le_of_ble_eq_true rfl) hl.1 dX3_moveRound_47 (fun b19 r18 H locs hgr18 hh hm hs => ?_)
          refine W.eq (g2 := F0 m 50 ls [.int r18]) rfl ?_
          refine lv_if_eq (tgt := 101) C.1 C.2.1 dX3_moveRound_50 (by decide) (fun c30 => ?_) (fun c30 => ?_)
          · rw [if_pos c30] at hh
            exact B101 _ _ _ _ _ _ _ _ _ _  hm hs (lv_sub hl [0, 1, 2, 3, 4, 5] rfl) hh
          · rw [if_neg c30] at hh
            refine r_aload_n C.1 C.2.1 dX3_moveRound_53 rfl (lv_at hl 0 rfl) ?_
            refine r_getR C hm flX3_21 dX3_moveRound_54 hh (fun x20 _ hh => ?_)
            refine lv_iload C.1 C.2.1 dX3_moveRound_57 (lv_at hl 7 rfl) ?_
            refine r_ald C hm dX3_moveRound_59 hh (fun x21 _ hh => ?_)
            refine lv_istore (i := 8) (lv' := [(8, .int x21), (0, va_rf (some a0)), (1, .int v1), (2, .int v2), (3, .int v3), (4, .int v4), (5, .int v5), (6, .int v6), (7, .int v7)]) C.1 C.2.1 dX3_moveRound_60 hl (by decide) rfl (fun ls hl => ?_)
            refine r_aload_n C.1 C.2.1 dX3_moveRound_62 rfl (lv_at hl 1 rfl) ?_
            refine lv_iload C.1 C.2.1 dX3_moveRound_63 (lv_at hl 0 rfl) ?_
            refine lv_iload_n C.1 C.2.1 dX3_moveRound_65 rfl (lv_at hl 4 rfl) ?_
            refine r_cV C X hm hs mlX3_116 mvX3_116 hh (vv := fun r => some (.int r)) (hp := fun r => h) (fun b r hg => c_X3_loses l G h b _ _ r hg) rfl rfl (Nat.le_of_ble_eq_true rfl) (Nat.le_of_ble_eq_true rfl) (Nat.le_of_ble_eq_true rfl) hl.1 dX3_moveRound_66 (fun b23 r22 H locs hgr22 hh hm hs => ?_)
            refine W.eq (g2 := F0 m 69 ls [.int r22]) rfl ?_
            refine lv_if_eq (tgt := 91) C.1 C.2.1 dX3_moveRound_69 (by decide) (fun c29 => ?_) (fun c29 => ?_)
            · rw [if_pos c29] at hh
              exact B91 _ ih _ _ _ _ _ _ _ _ _ _ _ _  hm hs (lv_sub hl [1, 2, 3, 4, 5, 6, 7, 0] rfl) hh
            · rw [if_neg c29] at hh
              refine lv_iload C.1 C.2.1 dX3_moveRound_72 (lv_at hl 6 rfl) ?_
              refine r_aload_n C.1 C.2.1 dX3_moveRound_74 rfl (lv_at hl 1 rfl) ?_
              refine r_aload_n C.1 C.2.1 dX3_moveRound_75 rfl (lv_at hl 1 rfl) ?_
              refine lv_iload C.1 C.2.1 dX3_moveRound_76 (lv_at hl 0 rfl) ?_
              refine lv_iload C.1 C.2.1 dX3_moveRound_78 (lv_at hl 8 rfl) ?_
              refine r_cV C X hm hs mlX3_107 mvX3_107 hh (vv := fun r => some (.int r)) (hp := fun r => h) (fun b r hg => c_X3_cellBetween l G h b _ _ r hg) rfl rfl (by simp [va_cat, vc_i, vc_l, vc_r]) (Nat.le_of_ble_eq_true rfl) (Nat.le_of_ble_eq_true rfl) hl.1 dX3_moveRound_80 (fun b25 r24 H locs hgr24 hh hm hs => ?_)
              refine W.eq (g2 := F0 m 83 ls [.int r24, va_rf (some a0), .int v5]) rfl ?_
              refine r_cV C X hm hs mlX3_120 mvX3_120 hh (vv := fun r => some (.int r)) (hp := fun r => h) (fun b r hg => c_X3_countAt l G h b _ r hg) rfl rfl (Nat.le_of_ble_eq_true rfl) (Nat.le_of_ble_eq_true rfl) (Nat.le_of_ble_eq_true rfl) hl.1 dX3_moveRound_83 (fun b27 r26 H locs hgr26 hh hm hs => ?_)
              refine W.eq (g2 := F0 m 86 ls [.int r26, .int v5]) rfl ?_
              refine r_cS C X hm hs mlX3_68 msX3_68 hh (vv := fun r => some (.int r)) (hp := fun r => h) (fun r hg => c_J9_min_7cf53 l G h _ _ r hg) rfl rfl (Nat.le_of_ble_eq_true rfl) (Nat.le_of_ble_eq_true rfl) (Nat.le_of_ble_eq_true rfl) hl.1 dX3_moveRound_86 (fun r28 H locs hgr28 hh hm hs => ?_)
              refine W.eq (g2 := F0 m 89 ls [.int r28]) rfl ?_
              refine lv_istore (i := 5) (lv' := [(5, .int r28), (8, .int x21), (0, va_rf (some a0)), (1, .int v1), (2, .int v2), (3, .int v3), (4, .int v4), (6, .int v6), (7, .int v7)]) C.1 C.2.1 dX3_moveRound_89 hl (by decide) rfl (fun ls hl => ?_)
              exact B91 _ ih _ _ _ _ _ _ _ _ _ _ _ _  hm hs (lv_sub hl [2, 3, 4, 5, 6, 0, 7, 1] rfl) hh
  have B23 : ∀ (h : MHp) (H : Heap) (locs : List Loc) (ls : Array Slot) (a0 : Nat) (v1 : Int32) (v2 : Int32) (v3 : Int32) (v4 : Int32) (t0 : Int32) , mHp (gD G) (gC G) (gB G) h H → va_S (fun q => gB G ≤ q) s.heap H locs → lv_has ls 9 [(0, va_rf (some a0)), (1, .int v1), (2, .int v2), (3, .int v3), (4, .int v4)] → mX3_moveRound_b23 h a0 v1 v2 v3 v4 t0 = some res → W p l e ({ frames := 1, cells := 0, slots := 0, locals := 22 }) s m args below meth c H locs 0 0 Q (F0 m 23 ls [.int t0]) := by
    intro h H locs ls a0 v1 v2 v3 v4 t0 hm hs hl hh
    unfold mX3_moveRound_b23 at hh
    refine lv_istore (i := 5) (lv' := [(5, .int t0), (0, va_rf (some a0)), (1, .int v1), (2, .int v2), (3, .int v3), (4, .int v4)]) C.1 C.2.1 dX3_moveRound_23 hl (by decide) rfl (fun ls hl => ?_)
    refine lv_iconst (v := 0) C.1 C.2.1 dX3_moveRound_25 (by decide) ?_
    refine lv_istore (i := 6) (lv' := [(6, .int 0), (5, .int t0), (0, va_rf (some a0)), (1, .int v1), (2, .int v2), (3, .int v3), (4, .int v4)]) C.1 C.2.1 dX3_moveRound_26 hl (by decide) rfl (fun ls hl => ?_)
    refine lv_iload_n C.1 C.2.1 dX3_moveRound_28 rfl (lv_at hl 4 rfl) ?_
    refine lv_istore (i := 7) (lv' := [(7, .int v2), (6, .int 0), (5, .int t0), (0, va_rf (some a0)), (1, .int v1), (2, .int v2), (3, .int v3), (4, .int v4)]) C.1 C.2.1 dX3_moveRound_29 hl (by decide) rfl (fun ls hl => ?_)
    exact B31 FUEL _ _ _ _ _ _ _ _ _ _ _ _  hm hs (lv_sub hl [3, 4, 5, 6, 7, 2, 1, 0] rfl) hh
  unfold mX3_moveRound at hh
  refine r_aload_n C.1 C.2.1 dX3_moveRound_0 rfl (lv_at hl 0 rfl) ?_
  refine lv_iload_n C.1 C.2.1 dX3_moveRound_1 rfl (lv_at hl 1 rfl) ?_
  refine lv_iload_n C.1 C.2.1 dX3_moveRound_2 rfl (lv_at hl 2 rfl) ?_
  refine r_cV C X hm hs mlX3_107 mvX3_107 hh (vv := fun r => some (.int r)) (hp := fun r => h) (fun b r hg => c_X3_cellBetween l G h b _ _ r hg) rfl rfl (Nat.le_of_ble_eq_true rfl) (Nat.le_of_ble_eq_true rfl) (Nat.le_of_ble_eq_true rfl) hl.1 dX3_moveRound_3 (fun b34 r33 H locs hgr33 hh hm hs => ?_)
  refine W.eq (g2 := F0 m 6 ls [.int r33]) rfl ?_
  refine lv_istore (i := 4) (lv' := [(4, .int r33), (0, va_rf (some a0)), (1, .int a1), (2, .int a2), (3, .int a3)]) C.1 C.2.1 dX3_moveRound_6 hl (by decide) rfl (fun ls hl => ?_)
  refine lv_iload_n C.1 C.2.1 dX3_moveRound_8 rfl (lv_at hl 4 rfl) ?_
  refine lv_if_eq (tgt := 17) C.1 C.2.1 dX3_moveRound_9 (by decide) (fun c37 => ?_) (fun c37 => ?_)
  · rw [if_pos c37] at hh
    refine r_aload_n C.1 C.2.1 dX3_moveRound_17 rfl (lv_at hl 1 rfl) ?_
    refine lv_iload C.1 C.2.1 dX3_moveRound_18 (lv_at hl 0 rfl) ?_
    refine r_cV C X hm hs mlX3_120 mvX3_120 hh (vv := fun r => some (.int r)) (hp := fun r => h) (fun b r hg => c_X3_countAt l G h b _ r hg) rfl rfl (Nat.le_of_ble_eq_true rfl) (Nat.le_of_ble_eq_true rfl) (Nat.le_of_ble_eq_true rfl) hl.1 dX3_moveRound_20 (fun b36 r35 H locs hgr35 hh hm hs => ?_)
    refine W.eq (g2 := F0 m 23 ls [.int r35]) rfl ?_
    exact B23 _ _ _ _ _ _ _ _ _ _  hm hs (lv_sub hl [1, 2, 3, 4, 0] rfl) hh
  · rw [if_neg c37] at hh
    refine lv_bipush (v := 60) C.1 C.2.1 dX3_moveRound_12 (by decide) ?_
    refine lv_goto (tgt := 23) C.1 C.2.1 dX3_moveRound_14 (by decide) ?_
    exact B23 _ _ _ _ _ _ _ _ _ _  hm hs (lv_sub hl [1, 2, 3, 4, 0] rfl) hh
def mX3_edgeOf_b113 (h : MHp) (a0 : Nat) (v1 : Int32) : Option (Int32 × MHp) := (gR 4 3 h (some a0)).bind fun x1 => (gAI 20 h x1 v1).bind fun x2 => some (x2, h)
def mX3_edgeOf_b80 (k59 : MHp → Nat → Int32 → Int64 → Int32 → Int32 → Int32 → Int32 → Option (Int32 × MHp)) (h : MHp) (a0 : Nat) (v1 : Int32) (v2 : Int64) (v4 : Int32) (v5 : Int32) (v6 : Int32) (v7 : Int32) : Option (Int32 × MHp) := (rcv 4 h (some a0)).bind fun b4 => (mX3_findCircle h b4 v5 v6 v2 v4).bind fun r3 => (if r3.1 = 0 then mX3_edgeOf_b113 r3.2 a0 v1 else (rcv 4 r3.2 (some a0)).bind fun b6 => (mX3_moveRound r3.2 b6 v5 v6 v4).bind fun r5 => k59 r5 a0 v1 v2 v4 v5 v6 (v7 + 1))
def mX3_edgeOf_l59 : Nat → MHp → Nat → Int32 → Int64 → Int32 → Int32 → Int32 → Int32 → Option (Int32 × MHp)
  | 0, _, _, _, _, _, _, _, _ => none
  | n + 1, h, a0, v1, v2, v4, v5, v6, v7 => (if 1000000 ≤ v7 then mX3_edgeOf_b113 h a0 v1 else (if v4 = 0 then (gR 4 3 h (some a0)).bind fun x8 => (gAI 20 h x8 v1).bind fun x9 => (if x9 ≤ 0 then mX3_edgeOf_b113 h a0 v1 else mX3_edgeOf_b80 (mX3_edgeOf_l59 n) h a0 v1 v2 v4 v5 v6 v7) else mX3_edgeOf_b80 (mX3_edgeOf_l59 n) h a0 v1 v2 v4 v5 v6 v7))
def mX3_edgeOf (h : MHp) (a0 : Nat) (a1 : Int32) (a2 : Int64) (a3 : Int32) : Option (Int32 × MHp) := (if a1 < 0 then some ((-1), h) else (if 100 ≤ a1 then some ((-1), h) else (gI 4 7 h (some a0)).bind fun x13 => (if 1 ≤ x13 then (gI 4 7 h (some a0)).bind fun x14 => (nz x14).bind fun _ => (gI 4 6 h (some a0)).bind fun x15 => (gI 4 7 h (some a0)).bind fun x16 => (nz x16).bind fun _ => (gR 4 1 h (some a0)).bind fun x17 => (gR 4 3 h (some a0)).bind fun x18 => (cpI 20 h x17 0 x18 0 100).bind fun h19 => mX3_edgeOf_l59 FUEL h19 a0 a1 a2 a3 (a1 / x14) (x15 + (a1 - a1 / x16 * x16)) 0 else some ((-1), h))))
set_option maxRecDepth 100000 in
set_option maxHeartbeats 4000000 in
theorem c_X3_edgeOf (l : Launch) (G : Env0) (h : MHp) (a0 : Nat) (a1 : Int32) (a2 : Int64) (a3 : Int32) (res : Int32 × MHp) (hh : mX3_edgeOf h a0 a1 a2 a3 = some res) : MG l yX3_edgeOf cX3_edgeOf 8 (some .int) 2 55 0 0 G h [.ref a0, .int a1, .long a2, .int a3] (some (.int res.1)) (res.2) := by
  refine MG_of (own := RX3) (plainFor_of_name (by decide)) rfl (Nat.le_of_ble_eq_true rfl) ?_
  intro p e s m args below meth c Q ls hQ C X hin hm hs hl hr
  have hl : lv_has ls 8 [(0, va_rf (some a0)), (1, .int a1), (2, .long a2), (4, .int a3)] := hl
  have B113 : ∀ (h : MHp) (H : Heap) (locs : List Loc) (ls : Array Slot) (a0 : Nat) (v1 : Int32) , mHp (gD G) (gC G) (gB G) h H → va_S (fun q => gB G ≤ q) s.heap H locs → lv_has ls 8 [(0, va_rf (some a0)), (1, .int v1)] → mX3_edgeOf_b113 h a0 v1 = some res → W p l e ({ frames := 2, cells := 0, slots := 0, locals := 55 }) s m args below meth c H locs 0 0 Q (F0 m 113 ls []) := by
    intro h H locs ls a0 v1 hm hs hl hh
    unfold mX3_edgeOf_b113 at hh
    refine r_aload_n C.1 C.2.1 dX3_edgeOf_113 rfl (lv_at hl 0 rfl) ?_
    refine r_getR C hm flX3_18 dX3_edgeOf_114 hh (fun x1 _ hh => ?_)
    refine lv_iload_n C.1 C.2.1 dX3_edgeOf_117 rfl (lv_at hl 1 rfl) ?_
    refine r_ald C hm dX3_edgeOf_118 hh (fun x2 _ hh => ?_)
    exact r_iretW hQ C hr hm hs hh dX3_edgeOf_119
  have B80 : ∀ (k59 : MHp → Nat → Int32 → Int64 → Int32 → Int32 → Int32 → Int32 → Option (Int32 × MHp)), (∀ (h : MHp) (H : Heap) (locs : List Loc) (ls : Array Slot) (a0 : Nat) (v1 : Int32) (v2 : Int64) (v4 : Int32) (v5 : Int32) (v6 : Int32) (v7 : Int32) , mHp (gD G) (gC G) (gB G) h H → va_S (fun q => gB G ≤ q) s.heap H locs → lv_has ls 8 [(0, va_rf (some a0)), (1, .int v1), (2, .long v2), (4, .int v4), (5, .int v5), (6, .int v6), (7, .int v7)] → k59 h a0 v1 v2 v4 v5 v6 v7 = some res → W p l e ({ frames := 2, cells := 0, slots := 0, locals := 55 }) s m args below meth c H locs 0 0 Q (F0 m 59 ls [])) → ∀ (h : MHp) (H : Heap) (locs : List Loc) (ls : Array Slot) (a0 : Nat) (v1 : Int32) (v2 : Int64) (v4 : Int32) (v5 : Int32) (v6 : Int32) (v7 : Int32) , mHp (gD G) (gC G) (gB G) h H → va_S (fun q => gB G ≤ q) s.heap H locs → lv_has ls 8 [(0, va_rf (some a0)), (1, .int v1), (2, .long v2), (4, .int v4), (5, .int v5), (6, .int v6), (7, .int v7)] → mX3_edgeOf_b80 k59 h a0 v1 v2 v4 v5 v6 v7 = some res → W p l e ({ frames := 2, cells := 0, slots := 0, locals := 55 }) s m args below meth c H locs 0 0 Q (F0 m 80 ls []) := by
    intro k59 hk59 h H locs ls a0 v1 v2 v4 v5 v6 v7 hm hs hl hh
    unfold mX3_edgeOf_b80 at hh
    refine r_aload_n C.1 C.2.1 dX3_edgeOf_80 rfl (lv_at hl 0 rfl) ?_
    refine lv_iload C.1 C.2.1 dX3_edgeOf_81 (lv_at hl 4 rfl) ?_
    refine lv_iload C.1 C.2.1 dX3_edgeOf_83 (lv_at hl 5 rfl) ?_
    refine lv_lload_n C.1 C.2.1 dX3_edgeOf_85 rfl (lv_at hl 2 rfl) ?_
    refine lv_iload C.1 C.2.1 dX3_edgeOf_86 (lv_at hl 3 rfl) ?_
    refine r_cV C X hm hs mlX3_95 mvX3_95 hh (vv := fun r => some (.int r.1)) (hp := fun r => r.2) (fun b r hg => c_X3_findCircle l G h b _ _ _ _ r hg) rfl rfl (Nat.le_of_ble_eq_true rfl) (Nat.le_of_ble_eq_true rfl) (Nat.le_of_ble_eq_true rfl) hl.1 dX3_edgeOf_88 (fun b4 r3 H locs hgr3 hh hm hs => ?_)
    refine W.eq (g2 := F0 m 91 ls [.int r3.1]) rfl ?_
    refine lv_if_ne (tgt := 97) C.1 C.2.1 dX3_edgeOf_91 (by decide) (fun c7 => ?_) (fun c7 => ?_)
    · rw [if_neg c7] at hh
      refine r_aload_n C.1 C.2.1 dX3_edgeOf_97 rfl (lv_at hl 0 rfl) ?_
      refine lv_iload C.1 C.2.1 dX3_edgeOf_98 (lv_at hl 4 rfl) ?_
      refine lv_iload C.1 C.2.1 dX3_edgeOf_100 (lv_at hl 5 rfl) ?_
      refine lv_iload C.1 C.2.1 dX3_edgeOf_102 (lv_at hl 3 rfl) ?_
      refine r_cV C X hm hs mlX3_99 mvX3_99 hh (vv := fun r => none) (hp := fun r => r) (fun b r hg => c_X3_moveRound l G r3.2 b _ _ _ r hg) rfl rfl (Nat.le_of_ble_eq_true rfl) (Nat.le_of_ble_eq_true rfl) (Nat.le_of_ble_eq_true rfl) hl.1 dX3_edgeOf_104 (fun b6 r5 H locs hgr5 hh hm hs => ?_)
      refine W.eq (g2 := F0 m 107 ls []) rfl ?_
      refine lv_iinc (v := (v7 + 1)) (lv' := [(7, .int (v7 + 1)), (0, va_rf (some a0)), (1, .int v1), (2, .long v2), (4, .int v4), (5, .int v5), (6, .int v6)]) C.1 C.2.1 dX3_edgeOf_107 hl (k := 6) rfl rfl (by decide) rfl (fun ls hl => ?_)
      refine lv_goto (tgt := 59) C.1 C.2.1 dX3_edgeOf_110 (by decide) ?_
      exact hk59 _ _ _ _ _ _ _ _ _ _ _  hm hs (lv_sub hl [1, 2, 3, 4, 5, 6, 0] rfl) hh
    · rw [if_pos c7] at hh
      refine lv_goto (tgt := 113) C.1 C.2.1 dX3_edgeOf_94 (by decide) ?_
      exact B113 _ _ _ _ _ _  hm hs (lv_sub hl [0, 1] rfl) hh
  have B59 : ∀ n : Nat, ∀ (h : MHp) (H : Heap) (locs : List Loc) (ls : Array Slot) (a0 : Nat) (v1 : Int32) (v2 : Int64) (v4 : Int32) (v5 : Int32) (v6 : Int32) (v7 : Int32) , mHp (gD G) (gC G) (gB G) h H → va_S (fun q => gB G ≤ q) s.heap H locs → lv_has ls 8 [(0, va_rf (some a0)), (1, .int v1), (2, .long v2), (4, .int v4), (5, .int v5), (6, .int v6), (7, .int v7)] → mX3_edgeOf_l59 n h a0 v1 v2 v4 v5 v6 v7 = some res → W p l e ({ frames := 2, cells := 0, slots := 0, locals := 55 }) s m args below meth c H locs 0 0 Q (F0 m 59 ls []) := by
    intro n
    induction n with
    | zero => intro h H locs ls a0 v1 v2 v4 v5 v6 v7 hm hs hl hh; cases hh
    | succ n ih =>
      intro h H locs ls a0 v1 v2 v4 v5 v6 v7 hm hs hl hh
      unfold mX3_edgeOf_l59 at hh
      refine lv_iload C.1 C.2.1 dX3_edgeOf_59 (lv_at hl 6 rfl) ?_
      refine lv_ldc (v := 1000000) C.1 C.2.1 C.2.2.2.1 (C.2.2.2.2.1 _ (in_tbl q_1081 rfl)) dX3_edgeOf_61 ?_
      refine lv_icmp_ge (tgt := 113) C.1 C.2.1 dX3_edgeOf_63 (by decide) (fun c12 => ?_) (fun c12 => ?_)
      · rw [if_pos c12] at hh
        exact B113 _ _ _ _ _ _  hm hs (lv_sub hl [0, 1] rfl) hh
      · rw [if_neg c12] at hh
        refine lv_iload C.1 C.2.1 dX3_edgeOf_66 (lv_at hl 3 rfl) ?_
        refine lv_if_ne (tgt := 80) C.1 C.2.1 dX3_edgeOf_68 (by decide) (fun c11 => ?_) (fun c11 => ?_)
        · rw [if_neg c11] at hh
          exact B80 _ ih _ _ _ _ _ _ _ _ _ _ _  hm hs (lv_sub hl [0, 1, 2, 3, 4, 5, 6] rfl) hh
        · rw [if_pos c11] at hh
          refine r_aload_n C.1 C.2.1 dX3_edgeOf_71 rfl (lv_at hl 0 rfl) ?_
          refine r_getR C hm flX3_18 dX3_edgeOf_72 hh (fun x8 _ hh => ?_)
          refine lv_iload_n C.1 C.2.1 dX3_edgeOf_75 rfl (lv_at hl 1 rfl) ?_
          refine r_ald C hm dX3_edgeOf_76 hh (fun x9 _ hh => ?_)
          refine lv_if_le (tgt := 113) C.1 C.2.1 dX3_edgeOf_77 (by decide) (fun c10 => ?_) (fun c10 => ?_)
          · rw [if_pos c10] at hh
            exact B113 _ _ _ _ _ _  hm hs (lv_sub hl [0, 1] rfl) hh
          · rw [if_neg c10] at hh
            exact B80 _ ih _ _ _ _ _ _ _ _ _ _ _  hm hs (lv_sub hl [0, 1, 2, 3, 4, 5, 6] rfl) hh
  unfold mX3_edgeOf at hh
  refine lv_iload_n C.1 C.2.1 dX3_edgeOf_0 rfl (lv_at hl 1 rfl) ?_
  refine lv_if_lt (tgt := 18) C.1 C.2.1 dX3_edgeOf_1 (by decide) (fun c22 => ?_) (fun c22 => ?_)
  · rw [if_pos c22] at hh
    refine lv_iconst (v := (-1)) C.1 C.2.1 dX3_edgeOf_18 (by decide) ?_
    exact r_iretW hQ C hr hm hs hh dX3_edgeOf_19
  · rw [if_neg c22] at hh
    refine lv_iload_n C.1 C.2.1 dX3_edgeOf_4 rfl (lv_at hl 1 rfl) ?_
    refine lv_bipush (v := 100) C.1 C.2.1 dX3_edgeOf_5 (by decide) ?_
    refine lv_icmp_ge (tgt := 18) C.1 C.2.1 dX3_edgeOf_7 (by decide) (fun c21 => ?_) (fun c21 => ?_)
    · rw [if_pos c21] at hh
      refine lv_iconst (v := (-1)) C.1 C.2.1 dX3_edgeOf_18 (by decide) ?_
      exact r_iretW hQ C hr hm hs hh dX3_edgeOf_19
    · rw [if_neg c21] at hh
      refine r_aload_n C.1 C.2.1 dX3_edgeOf_10 rfl (lv_at hl 0 rfl) ?_
      refine r_getI C hm flX3_31 dX3_edgeOf_11 hh (fun x13 _ hh => ?_)
      refine lv_iconst (v := 1) C.1 C.2.1 dX3_edgeOf_14 (by decide) ?_
      refine lv_icmp_ge (tgt := 20) C.1 C.2.1 dX3_edgeOf_15 (by decide) (fun c20 => ?_) (fun c20 => ?_)
      · rw [if_pos c20] at hh
        refine lv_iload_n C.1 C.2.1 dX3_edgeOf_20 rfl (lv_at hl 1 rfl) ?_
        refine r_aload_n C.1 C.2.1 dX3_edgeOf_21 rfl (lv_at hl 0 rfl) ?_
        refine r_getI C hm flX3_31 dX3_edgeOf_22 hh (fun x14 _ hh => ?_)
        refine r_idiv C dX3_edgeOf_25 hh (fun _ hh => ?_)
        refine lv_istore (i := 5) (lv' := [(5, .int (a1 / x14)), (0, va_rf (some a0)), (1, .int a1), (2, .long a2), (4, .int a3)]) C.1 C.2.1 dX3_edgeOf_26 hl (by decide) rfl (fun ls hl => ?_)
        refine r_aload_n C.1 C.2.1 dX3_edgeOf_28 rfl (lv_at hl 1 rfl) ?_
        refine r_getI C hm flX3_27 dX3_edgeOf_29 hh (fun x15 _ hh => ?_)
        refine lv_iload_n C.1 C.2.1 dX3_edgeOf_32 rfl (lv_at hl 2 rfl) ?_
        refine r_aload_n C.1 C.2.1 dX3_edgeOf_33 rfl (lv_at hl 1 rfl) ?_
        refine r_getI C hm flX3_31 dX3_edgeOf_34 hh (fun x16 _ hh => ?_)
        refine r_irem C dX3_edgeOf_37 hh (fun _ hh => ?_)
        refine lv_iadd C.1 C.2.1 dX3_edgeOf_38 ?_
        refine lv_istore (i := 6) (lv' := [(6, .int (x15 + (a1 - a1 / x16 * x16))), (5, .int (a1 / x14)), (0, va_rf (some a0)), (1, .int a1), (2, .long a2), (4, .int a3)]) C.1 C.2.1 dX3_edgeOf_39 hl (by decide) rfl (fun ls hl => ?_)
        refine r_aload_n C.1 C.2.1 dX3_edgeOf_41 rfl (lv_at hl 2 rfl) ?_
        refine r_getR C hm flX3_9 dX3_edgeOf_42 hh (fun x17 _ hh => ?_)
        refine lv_iconst (v := 0) C.1 C.2.1 dX3_edgeOf_45 (by decide) ?_
        refine r_aload_n C.1 C.2.1 dX3_edgeOf_46 rfl (lv_at hl 2 rfl) ?_
        refine r_getR C hm flX3_18 dX3_edgeOf_47 hh (fun x18 _ hh => ?_)
        refine lv_iconst (v := 0) C.1 C.2.1 dX3_edgeOf_50 (by decide) ?_
        refine lv_bipush (v := 100) C.1 C.2.1 dX3_edgeOf_51 (by decide) ?_
        refine r_copyI C hm hs (in_tbl q_1080 rfl) ACW dX3_edgeOf_53 hl.1 (Nat.le_of_ble_eq_true rfl) (Nat.le_of_ble_eq_true rfl) hh (fun h19 H locs _ hh hm hs => ?_)
        refine lv_iconst (v := 0) C.1 C.2.1 dX3_edgeOf_56 (by decide) ?_
        refine lv_istore (i := 7) (lv' := [(7, .int 0), (6, .int (x15 + (a1 - a1 / x16 * x16))), (5, .int (a1 / x14)), (0, va_rf (some a0)), (1, .int a1), (2, .long a2), (4, .int a3)]) C.1 C.2.1 dX3_edgeOf_57 hl (by decide) rfl (fun ls hl => ?_)
        exact B59 FUEL _ _ _ _ _ _ _ _ _ _ _  hm hs (lv_sub hl [3, 4, 5, 6, 2, 1, 0] rfl) hh
      · rw [if_neg c20] at hh
        refine lv_iconst (v := (-1)) C.1 C.2.1 dX3_edgeOf_18 (by decide) ?_
        exact r_iretW hQ C hr hm hs hh dX3_edgeOf_19
def mX3_isWide_b57 (k17 : MHp → Nat → Int64 → Int64 → Int32 → Int32 → Option (Int32 × MHp)) (h : MHp) (a0 : Nat) (v1 : Int64) (v3 : Int64) (v5 : Int32) (v6 : Int32) : Option (Int32 × MHp) := k17 h a0 v1 v3 v5 (v6 + 1)
def mX3_isWide_l17 : Nat → MHp → Nat → Int64 → Int64 → Int32 → Int32 → Option (Int32 × MHp)
  | 0, _, _, _, _, _, _ => none
  | n + 1, h, a0, v1, v3, v5, v6 => (if 60 ≤ v6 then some (1, h) else (mX11_isLeftOut h v6 v3).bind fun r1 => (if r1 = 0 then mX3_isWide_b57 (mX3_isWide_l17 n) h a0 v1 v3 v5 v6 else (rcv 4 h (some a0)).bind fun b3 => (mX3_edgeOf h b3 v6 v1 1).bind fun r2 => (rcv 4 r2.2 (some a0)).bind fun b5 => (mX3_edgeOf r2.2 b5 v6 v1 0).bind fun r4 => (if v5 ≤ (r2.1 - r4.1) then mX3_isWide_b57 (mX3_isWide_l17 n) r4.2 a0 v1 v3 v5 v6 else some (0, r4.2))))
def mX3_isWide (h : MHp) (a0 : Nat) (a1 : Int64) (a2 : Int64) (a3 : Int32) : Option (Int32 × MHp) := (if (lg_cmp (a2 &&& (a1 ^^^ (-1))) 0) = 0 then mX3_isWide_l17 FUEL h a0 a1 a2 a3 0 else some (0, h))
set_option maxRecDepth 100000 in
set_option maxHeartbeats 4000000 in
theorem c_X3_isWide (l : Launch) (G : Env0) (h : MHp) (a0 : Nat) (a1 : Int64) (a2 : Int64) (a3 : Int32) (res : Int32 × MHp) (hh : mX3_isWide h a0 a1 a2 a3 = some res) : MG l yX3_isWide cX3_isWide 7 (some .boolean) 3 82 0 0 G h [.ref a0, .long a1, .long a2, .int a3] (some (.int res.1)) (res.2) := by
  refine MG_of (own := RX3) (plainFor_of_name (by decide)) rfl (Nat.le_of_ble_eq_true rfl) ?_
  intro p e s m args below meth c Q ls hQ C X hin hm hs hl hr
  have hl : lv_has ls 7 [(0, va_rf (some a0)), (1, .long a1), (3, .long a2), (5, .int a3)] := hl
  have B57 : ∀ (k17 : MHp → Nat → Int64 → Int64 → Int32 → Int32 → Option (Int32 × MHp)), (∀ (h : MHp) (H : Heap) (locs : List Loc) (ls : Array Slot) (a0 : Nat) (v1 : Int64) (v3 : Int64) (v5 : Int32) (v6 : Int32) , mHp (gD G) (gC G) (gB G) h H → va_S (fun q => gB G ≤ q) s.heap H locs → lv_has ls 7 [(0, va_rf (some a0)), (1, .long v1), (3, .long v3), (5, .int v5), (6, .int v6)] → k17 h a0 v1 v3 v5 v6 = some res → W p l e ({ frames := 3, cells := 0, slots := 0, locals := 82 }) s m args below meth c H locs 0 0 Q (F0 m 17 ls [])) → ∀ (h : MHp) (H : Heap) (locs : List Loc) (ls : Array Slot) (a0 : Nat) (v1 : Int64) (v3 : Int64) (v5 : Int32) (v6 : Int32) , mHp (gD G) (gC G) (gB G) h H → va_S (fun q => gB G ≤ q) s.heap H locs → lv_has ls 7 [(0, va_rf (some a0)), (1, .long v1), (3, .long v3), (5, .int v5), (6, .int v6)] → mX3_isWide_b57 k17 h a0 v1 v3 v5 v6 = some res → W p l e ({ frames := 3, cells := 0, slots := 0, locals := 82 }) s m args below meth c H locs 0 0 Q (F0 m 57 ls []) := by
    intro k17 hk17 h H locs ls a0 v1 v3 v5 v6 hm hs hl hh
    unfold mX3_isWide_b57 at hh
    refine lv_iinc (v := (v6 + 1)) (lv' := [(6, .int (v6 + 1)), (0, va_rf (some a0)), (1, .long v1), (3, .long v3), (5, .int v5)]) C.1 C.2.1 dX3_isWide_57 hl (k := 4) rfl rfl (by decide) rfl (fun ls hl => ?_)
    refine lv_goto (tgt := 17) C.1 C.2.1 dX3_isWide_60 (by decide) ?_
    exact hk17 _ _ _ _ _ _ _ _ _  hm hs (lv_sub hl [1, 2, 3, 4, 0] rfl) hh
  have B17 : ∀ n : Nat, ∀ (h : MHp) (H : Heap) (locs : List Loc) (ls : Array Slot) (a0 : Nat) (v1 : Int64) (v3 : Int64) (v5 : Int32) (v6 : Int32) , mHp (gD G) (gC G) (gB G) h H → va_S (fun q => gB G ≤ q) s.heap H locs → lv_has ls 7 [(0, va_rf (some a0)), (1, .long v1), (3, .long v3), (5, .int v5), (6, .int v6)] → mX3_isWide_l17 n h a0 v1 v3 v5 v6 = some res → W p l e ({ frames := 3, cells := 0, slots := 0, locals := 82 }) s m args below meth c H locs 0 0 Q (F0 m 17 ls []) := by
    intro n
    induction n with
    | zero => intro h H locs ls a0 v1 v3 v5 v6 hm hs hl hh; cases hh
    | succ n ih =>
      intro h H locs ls a0 v1 v3 v5 v6 hm hs hl hh
      unfold mX3_isWide_l17 at hh
      refine lv_iload C.1 C.2.1 dX3_isWide_17 (lv_at hl 4 rfl) ?_
      refine lv_bipush (v := 60) C.1 C.2.1 dX3_isWide_19 (by decide) ?_
      refine lv_icmp_ge (tgt := 63) C.1 C.2.1 dX3_isWide_21 (by decide) (fun c8 => ?_) (fun c8 => ?_)
      · rw [if_pos c8] at hh
        refine lv_iconst (v := 1) C.1 C.2.1 dX3_isWide_63 (by decide) ?_
        exact r_bretW hQ C hr hm hs (by decide) hh dX3_isWide_64
      · rw [if_neg c8] at hh
        refine lv_iload C.1 C.2.1 dX3_isWide_24 (lv_at hl 4 rfl) ?_
        refine lv_lload_n C.1 C.2.1 dX3_isWide_26 rfl (lv_at hl 2 rfl) ?_
        refine r_cS C X hm hs mlX3_60 msX3_60 hh (vv := fun r => some (.int r)) (hp := fun r => h) (fun r hg => c_X11_isLeftOut l G h _ _ r hg) rfl rfl (Nat.le_of_ble_eq_true rfl) (Nat.le_of_ble_eq_true rfl) (Nat.le_of_ble_eq_true rfl) hl.1 dX3_isWide_27 (fun r1 H locs hgr1 hh hm hs => ?_)
        refine W.eq (g2 := F0 m 30 ls [.int r1]) rfl ?_
        refine lv_if_eq (tgt := 57) C.1 C.2.1 dX3_isWide_30 (by decide) (fun c7 => ?_) (fun c7 => ?_)
        · rw [if_pos c7] at hh
          exact B57 _ ih _ _ _ _ _ _ _ _ _  hm hs (lv_sub hl [0, 1, 2, 3, 4] rfl) hh
        · rw [if_neg c7] at hh
          refine r_aload_n C.1 C.2.1 dX3_isWide_33 rfl (lv_at hl 0 rfl) ?_
          refine lv_iload C.1 C.2.1 dX3_isWide_34 (lv_at hl 4 rfl) ?_
          refine lv_lload_n C.1 C.2.1 dX3_isWide_36 rfl (lv_at hl 1 rfl) ?_
          refine lv_iconst (v := 1) C.1 C.2.1 dX3_isWide_37 (by decide) ?_
          refine r_cV C X hm hs mlX3_64 mvX3_64 hh (vv := fun r => some (.int r.1)) (hp := fun r => r.2) (fun b r hg => c_X3_edgeOf l G h b _ _ _ r hg) rfl rfl (Nat.le_of_ble_eq_true rfl) (Nat.le_of_ble_eq_true rfl) (Nat.le_of_ble_eq_true rfl) hl.1 dX3_isWide_38 (fun b3 r2 H locs hgr2 hh hm hs => ?_)
          refine W.eq (g2 := F0 m 41 ls [.int r2.1]) rfl ?_
          refine r_aload_n C.1 C.2.1 dX3_isWide_41 rfl (lv_at hl 0 rfl) ?_
          refine lv_iload C.1 C.2.1 dX3_isWide_42 (lv_at hl 4 rfl) ?_
          refine lv_lload_n C.1 C.2.1 dX3_isWide_44 rfl (lv_at hl 1 rfl) ?_
          refine lv_iconst (v := 0) C.1 C.2.1 dX3_isWide_45 (by decide) ?_
          refine r_cV C X hm hs mlX3_64 mvX3_64 hh (vv := fun r => some (.int r.1)) (hp := fun r => r.2) (fun b r hg => c_X3_edgeOf l G r2.2 b _ _ _ r hg) rfl rfl (Nat.le_of_ble_eq_true rfl) (Nat.le_of_ble_eq_true rfl) (Nat.le_of_ble_eq_true rfl) hl.1 dX3_isWide_46 (fun b5 r4 H locs hgr4 hh hm hs => ?_)
          refine W.eq (g2 := F0 m 49 ls [.int r4.1, .int r2.1]) rfl ?_
          refine lv_isub C.1 C.2.1 dX3_isWide_49 ?_
          refine lv_iload C.1 C.2.1 dX3_isWide_50 (lv_at hl 3 rfl) ?_
          refine lv_icmp_ge (tgt := 57) C.1 C.2.1 dX3_isWide_52 (by decide) (fun c6 => ?_) (fun c6 => ?_)
          · rw [if_pos c6] at hh
            exact B57 _ ih _ _ _ _ _ _ _ _ _  hm hs (lv_sub hl [0, 1, 2, 3, 4] rfl) hh
          · rw [if_neg c6] at hh
            refine lv_iconst (v := 0) C.1 C.2.1 dX3_isWide_55 (by decide) ?_
            exact r_bretW hQ C hr hm hs (by decide) hh dX3_isWide_56
  unfold mX3_isWide at hh
  refine lv_lload_n C.1 C.2.1 dX3_isWide_0 rfl (lv_at hl 2 rfl) ?_
  refine lv_lload_n C.1 C.2.1 dX3_isWide_1 rfl (lv_at hl 1 rfl) ?_
  refine lv_ldc2 (v := (-1)) C.1 C.2.1 C.2.2.2.1 (C.2.2.2.2.1 _ (in_tbl q_1121 rfl)) dX3_isWide_2 ?_
  refine lv_lxor C.1 C.2.1 dX3_isWide_5 ?_
  refine lv_land C.1 C.2.1 dX3_isWide_6 ?_
  refine lv_lconst (v := 0) C.1 C.2.1 dX3_isWide_7 (by decide) ?_
  refine W.lcmp C.1 C.2.1 dX3_isWide_8 ?_
  refine lv_if_eq (tgt := 14) C.1 C.2.1 dX3_isWide_9 (by decide) (fun c9 => ?_) (fun c9 => ?_)
  · rw [if_pos c9] at hh
    refine lv_iconst (v := 0) C.1 C.2.1 dX3_isWide_14 (by decide) ?_
    refine lv_istore (i := 6) (lv' := [(6, .int 0), (0, va_rf (some a0)), (1, .long a1), (3, .long a2), (5, .int a3)]) C.1 C.2.1 dX3_isWide_15 hl (by decide) rfl (fun ls hl => ?_)
    exact B17 FUEL _ _ _ _ _ _ _ _ _  hm hs (lv_sub hl [1, 2, 3, 4, 0] rfl) hh
  · rw [if_neg c9] at hh
    refine lv_iconst (v := 0) C.1 C.2.1 dX3_isWide_12 (by decide) ?_
    exact r_bretW hQ C hr hm hs (by decide) hh dX3_isWide_13
def mX3_rowsIn_b28 (k4 : Nat → Int32 → Int32 → Int32 → Option (Int32)) (h : MHp) (a0 : Nat) (v1 : Int32) (v2 : Int32) (v3 : Int32) : Option (Int32) := k4 a0 v1 v2 (v3 + 1)
def mX3_rowsIn_l4 (h : MHp) : Nat → Nat → Int32 → Int32 → Int32 → Option (Int32)
  | 0, _, _, _, _ => none
  | n + 1, a0, v1, v2, v3 => (if 12 ≤ v3 then some v2 else (mX11_isLeftOut h v3 v1.toInt64).bind fun r1 => (if r1 = 0 then mX3_rowsIn_b28 (mX3_rowsIn_l4 h n) h a0 v1 v2 v3 else (gR 4 1 h (some a0)).bind fun x2 => (gAI 20 h x2 v3).bind fun x3 => mX3_rowsIn_b28 (mX3_rowsIn_l4 h n) h a0 v1 (v2 + x3) v3))
def mX3_rowsIn (h : MHp) (a0 : Nat) (a1 : Int32) : Option (Int32) := mX3_rowsIn_l4 h FUEL a0 a1 0 0
set_option maxRecDepth 100000 in
set_option maxHeartbeats 4000000 in
theorem c_X3_rowsIn (l : Launch) (G : Env0) (h : MHp) (a0 : Nat) (a1 : Int32) (res : Int32) (hh : mX3_rowsIn h a0 a1 = some res) : MG l yX3_rowsIn cX3_rowsIn 4 (some .int) 1 22 0 0 G h [.ref a0, .int a1] (some (.int res)) (h) := by
  refine MG_of (own := RX3) (plainFor_of_name (by decide)) rfl (Nat.le_of_ble_eq_true rfl) ?_
  intro p e s m args below meth c Q ls hQ C X hin hm hs hl hr
  have hl : lv_has ls 4 [(0, va_rf (some a0)), (1, .int a1)] := hl
  have B28 : ∀ (k4 : Nat → Int32 → Int32 → Int32 → Option (Int32)), (∀ (H : Heap) (locs : List Loc) (ls : Array Slot) (a0 : Nat) (v1 : Int32) (v2 : Int32) (v3 : Int32) , mHp (gD G) (gC G) (gB G) h H → va_S (fun q => gB G ≤ q) s.heap H locs → lv_has ls 4 [(0, va_rf (some a0)), (1, .int v1), (2, .int v2), (3, .int v3)] → k4 a0 v1 v2 v3 = some res → W p l e ({ frames := 1, cells := 0, slots := 0, locals := 22 }) s m args below meth c H locs 0 0 Q (F0 m 4 ls [])) → ∀ (H : Heap) (locs : List Loc) (ls : Array Slot) (a0 : Nat) (v1 : Int32) (v2 : Int32) (v3 : Int32) , mHp (gD G) (gC G) (gB G) h H → va_S (fun q => gB G ≤ q) s.heap H locs → lv_has ls 4 [(0, va_rf (some a0)), (1, .int v1), (2, .int v2), (3, .int v3)] → mX3_rowsIn_b28 k4 h a0 v1 v2 v3 = some res → W p l e ({ frames := 1, cells := 0, slots := 0, locals := 22 }) s m args below meth c H locs 0 0 Q (F0 m 28 ls []) := by
    intro k4 hk4 H locs ls a0 v1 v2 v3 hm hs hl hh
    unfold mX3_rowsIn_b28 at hh
    refine lv_iinc (v := (v3 + 1)) (lv' := [(3, .int (v3 + 1)), (0, va_rf (some a0)), (1, .int v1), (2, .int v2)]) C.1 C.2.1 dX3_rowsIn_28 hl (k := 3) rfl rfl (by decide) rfl (fun ls hl => ?_)
    refine lv_goto (tgt := 4) C.1 C.2.1 dX3_rowsIn_31 (by decide) ?_
    exact hk4 _ _ _ _ _ _ _  hm hs (lv_sub hl [1, 2, 3, 0] rfl) hh
  have B4 : ∀ n : Nat, ∀ (H : Heap) (locs : List Loc) (ls : Array Slot) (a0 : Nat) (v1 : Int32) (v2 : Int32) (v3 : Int32) , mHp (gD G) (gC G) (gB G) h H → va_S (fun q => gB G ≤ q) s.heap H locs → lv_has ls 4 [(0, va_rf (some a0)), (1, .int v1), (2, .int v2), (3, .int v3)] → mX3_rowsIn_l4 h n a0 v1 v2 v3 = some res → W p l e ({ frames := 1, cells := 0, slots := 0, locals := 22 }) s m args below meth c H locs 0 0 Q (F0 m 4 ls []) := by
    intro n
    induction n with
    | zero => intro H locs ls a0 v1 v2 v3 hm hs hl hh; cases hh
    | succ n ih =>
      intro H locs ls a0 v1 v2 v3 hm hs hl hh
      unfold mX3_rowsIn_l4 at hh
      refine lv_iload_n C.1 C.2.1 dX3_rowsIn_4 rfl (lv_at hl 3 rfl) ?_
      refine lv_bipush (v := 12) C.1 C.2.1 dX3_rowsIn_5 (by decide) ?_
      refine lv_icmp_ge (tgt := 34) C.1 C.2.1 dX3_rowsIn_7 (by decide) (fun c5 => ?_) (fun c5 => ?_)
      · rw [if_pos c5] at hh
        refine lv_iload_n C.1 C.2.1 dX3_rowsIn_34 rfl (lv_at hl 2 rfl) ?_
        exact r_iretP hQ C hr hm hs hh dX3_rowsIn_35
      · rw [if_neg c5] at hh
        refine lv_iload_n C.1 C.2.1 dX3_rowsIn_10 rfl (lv_at hl 3 rfl) ?_
        refine lv_iload_n C.1 C.2.1 dX3_rowsIn_11 rfl (lv_at hl 1 rfl) ?_
        refine lv_i2l (v := v1.toInt64) C.1 C.2.1 dX3_rowsIn_12 rfl ?_
        refine r_cS C X hm hs mlX3_60 msX3_60 hh (vv := fun r => some (.int r)) (hp := fun r => h) (fun r hg => c_X11_isLeftOut l G h _ _ r hg) rfl rfl (Nat.le_of_ble_eq_true rfl) (Nat.le_of_ble_eq_true rfl) (Nat.le_of_ble_eq_true rfl) hl.1 dX3_rowsIn_13 (fun r1 H locs hgr1 hh hm hs => ?_)
        refine W.eq (g2 := F0 m 16 ls [.int r1]) rfl ?_
        refine lv_if_eq (tgt := 28) C.1 C.2.1 dX3_rowsIn_16 (by decide) (fun c4 => ?_) (fun c4 => ?_)
        · rw [if_pos c4] at hh
          exact B28 _ ih _ _ _ _ _ _ _  hm hs (lv_sub hl [0, 1, 2, 3] rfl) hh
        · rw [if_neg c4] at hh
          refine lv_iload_n C.1 C.2.1 dX3_rowsIn_19 rfl (lv_at hl 2 rfl) ?_
          refine r_aload_n C.1 C.2.1 dX3_rowsIn_20 rfl (lv_at hl 0 rfl) ?_
          refine r_getR C hm flX3_9 dX3_rowsIn_21 hh (fun x2 _ hh => ?_)
          refine lv_iload_n C.1 C.2.1 dX3_rowsIn_24 rfl (lv_at hl 3 rfl) ?_
          refine r_ald C hm dX3_rowsIn_25 hh (fun x3 _ hh => ?_)
          refine lv_iadd C.1 C.2.1 dX3_rowsIn_26 ?_
          refine lv_istore_n (i := 2) (lv' := [(2, .int (v2 + x3)), (0, va_rf (some a0)), (1, .int v1), (3, .int v3)]) C.1 C.2.1 dX3_rowsIn_27 rfl hl (by decide) rfl (fun ls hl => ?_)
          exact B28 _ ih _ _ _ _ _ _ _  hm hs (lv_sub hl [1, 2, 0, 3] rfl) hh
  unfold mX3_rowsIn at hh
  refine lv_iconst (v := 0) C.1 C.2.1 dX3_rowsIn_0 (by decide) ?_
  refine lv_istore_n (i := 2) (lv' := [(2, .int 0), (0, va_rf (some a0)), (1, .int a1)]) C.1 C.2.1 dX3_rowsIn_1 rfl hl (by decide) rfl (fun ls hl => ?_)
  refine lv_iconst (v := 0) C.1 C.2.1 dX3_rowsIn_2 (by decide) ?_
  refine lv_istore_n (i := 3) (lv' := [(3, .int 0), (2, .int 0), (0, va_rf (some a0)), (1, .int a1)]) C.1 C.2.1 dX3_rowsIn_3 rfl hl (by decide) rfl (fun ls hl => ?_)
  exact B4 FUEL _ _ _ _ _ _ _  hm hs (lv_sub hl [2, 3, 1, 0] rfl) hh
def mX3_isLess (h : MHp) (a0 : Nat) (a1 : Int32) (a2 : Int32) : Option (Int32) := (rcv 4 h (some a0)).bind fun b2 => (mX3_rowsIn h b2 a1).bind fun r1 => (rcv 4 h (some a0)).bind fun b4 => (mX3_rowsIn h b4 a2).bind fun r3 => (if (r1 - r3) = 0 then (mJ6_bitCount_0f7a4 h a1).bind fun r5 => (mJ6_bitCount_0f7a4 h a2).bind fun r6 => (if (r5 - r6) < 0 then some 1 else (if (r5 - r6) = 0 then (if a2 ≤ a1 then some 0 else some 1) else some 0)) else (if 0 ≤ (r1 - r3) then some 0 else some 1))
set_option maxRecDepth 100000 in
set_option maxHeartbeats 4000000 in
theorem c_X3_isLess (l : Launch) (G : Env0) (h : MHp) (a0 : Nat) (a1 : Int32) (a2 : Int32) (res : Int32) (hh : mX3_isLess h a0 a1 a2 = some res) : MG l yX3_isLess cX3_isLess 5 (some .boolean) 2 45 0 0 G h [.ref a0, .int a1, .int a2] (some (.int res)) (h) := by
  refine MG_of (own := RX3) (plainFor_of_name (by decide)) rfl (Nat.le_of_ble_eq_true rfl) ?_
  intro p e s m args below meth c Q ls hQ C X hin hm hs hl hr
  have hl : lv_has ls 5 [(0, va_rf (some a0)), (1, .int a1), (2, .int a2)] := hl
  unfold mX3_isLess at hh
  refine r_aload_n C.1 C.2.1 dX3_isLess_0 rfl (lv_at hl 0 rfl) ?_
  refine lv_iload_n C.1 C.2.1 dX3_isLess_1 rfl (lv_at hl 1 rfl) ?_
  refine r_cV C X hm hs mlX3_80 mvX3_80 hh (vv := fun r => some (.int r)) (hp := fun r => h) (fun b r hg => c_X3_rowsIn l G h b _ r hg) rfl rfl (Nat.le_of_ble_eq_true rfl) (Nat.le_of_ble_eq_true rfl) (Nat.le_of_ble_eq_true rfl) hl.1 dX3_isLess_2 (fun b2 r1 H locs hgr1 hh hm hs => ?_)
  refine W.eq (g2 := F0 m 5 ls [.int r1]) rfl ?_
  refine r_aload_n C.1 C.2.1 dX3_isLess_5 rfl (lv_at hl 0 rfl) ?_
  refine lv_iload_n C.1 C.2.1 dX3_isLess_6 rfl (lv_at hl 2 rfl) ?_
  refine r_cV C X hm hs mlX3_80 mvX3_80 hh (vv := fun r => some (.int r)) (hp := fun r => h) (fun b r hg => c_X3_rowsIn l G h b _ r hg) rfl rfl (Nat.le_of_ble_eq_true rfl) (Nat.le_of_ble_eq_true rfl) (Nat.le_of_ble_eq_true rfl) hl.1 dX3_isLess_7 (fun b4 r3 H locs hgr3 hh hm hs => ?_)
  refine W.eq (g2 := F0 m 10 ls [.int r3, .int r1]) rfl ?_
  refine lv_isub C.1 C.2.1 dX3_isLess_10 ?_
  refine lv_istore_n (i := 3) (lv' := [(3, .int (r1 - r3)), (0, va_rf (some a0)), (1, .int a1), (2, .int a2)]) C.1 C.2.1 dX3_isLess_11 rfl hl (by decide) rfl (fun ls hl => ?_)
  refine lv_iload_n C.1 C.2.1 dX3_isLess_12 rfl (lv_at hl 0 rfl) ?_
  refine lv_if_eq (tgt := 26) C.1 C.2.1 dX3_isLess_13 (by decide) (fun c11 => ?_) (fun c11 => ?_)
  · rw [if_pos c11] at hh
    refine lv_iload_n C.1 C.2.1 dX3_isLess_26 rfl (lv_at hl 2 rfl) ?_
    refine r_cS C X hm hs mlX3_83 msX3_83 hh (vv := fun r => some (.int r)) (hp := fun r => h) (fun r hg => c_J6_bitCount_0f7a4 l G h _ r hg) rfl rfl (Nat.le_of_ble_eq_true rfl) (Nat.le_of_ble_eq_true rfl) (Nat.le_of_ble_eq_true rfl) hl.1 dX3_isLess_27 (fun r5 H locs hgr5 hh hm hs => ?_)
    refine W.eq (g2 := F0 m 30 ls [.int r5]) rfl ?_
    refine lv_iload_n C.1 C.2.1 dX3_isLess_30 rfl (lv_at hl 3 rfl) ?_
    refine r_cS C X hm hs mlX3_83 msX3_83 hh (vv := fun r => some (.int r)) (hp := fun r => h) (fun r hg => c_J6_bitCount_0f7a4 l G h _ r hg) rfl rfl (Nat.le_of_ble_eq_true rfl) (Nat.le_of_ble_eq_true rfl) (Nat.le_of_ble_eq_true rfl) hl.1 dX3_isLess_31 (fun r6 H locs hgr6 hh hm hs => ?_)
    refine W.eq (g2 := F0 m 34 ls [.int r6, .int r5]) rfl ?_
    refine lv_isub C.1 C.2.1 dX3_isLess_34 ?_
    refine lv_istore (i := 4) (lv' := [(4, .int (r5 - r6)), (3, .int (r1 - r3)), (0, va_rf (some a0)), (1, .int a1), (2, .int a2)]) C.1 C.2.1 dX3_isLess_35 hl (by decide) rfl (fun ls hl => ?_)
    refine lv_iload C.1 C.2.1 dX3_isLess_37 (lv_at hl 0 rfl) ?_
    refine lv_if_lt (tgt := 52) C.1 C.2.1 dX3_isLess_39 (by decide) (fun c9 => ?_) (fun c9 => ?_)
    · rw [if_pos c9] at hh
      refine lv_iconst (v := 1) C.1 C.2.1 dX3_isLess_52 (by decide) ?_
      refine lv_goto (tgt := 57) C.1 C.2.1 dX3_isLess_53 (by decide) ?_
      exact r_bretP hQ C hr hm hs (by decide) hh dX3_isLess_57
    · rw [if_neg c9] at hh
      refine lv_iload C.1 C.2.1 dX3_isLess_42 (lv_at hl 0 rfl) ?_
      refine lv_if_ne (tgt := 56) C.1 C.2.1 dX3_isLess_44 (by decide) (fun c8 => ?_) (fun c8 => ?_)
      · rw [if_neg c8] at hh
        refine lv_iconst (v := 0) C.1 C.2.1 dX3_isLess_56 (by decide) ?_
        exact r_bretP hQ C hr hm hs (by decide) hh dX3_isLess_57
      · rw [if_pos c8] at hh
        refine lv_iload_n C.1 C.2.1 dX3_isLess_47 rfl (lv_at hl 3 rfl) ?_
        refine lv_iload_n C.1 C.2.1 dX3_isLess_48 rfl (lv_at hl 4 rfl) ?_
        refine lv_icmp_ge (tgt := 56) C.1 C.2.1 dX3_isLess_49 (by decide) (fun c7 => ?_) (fun c7 => ?_)
        · rw [if_pos c7] at hh
          refine lv_iconst (v := 0) C.1 C.2.1 dX3_isLess_56 (by decide) ?_
          exact r_bretP hQ C hr hm hs (by decide) hh dX3_isLess_57
        · rw [if_neg c7] at hh
          refine lv_iconst (v := 1) C.1 C.2.1 dX3_isLess_52 (by decide) ?_
          refine lv_goto (tgt := 57) C.1 C.2.1 dX3_isLess_53 (by decide) ?_
          exact r_bretP hQ C hr hm hs (by decide) hh dX3_isLess_57
  · rw [if_neg c11] at hh
    refine lv_iload_n C.1 C.2.1 dX3_isLess_16 rfl (lv_at hl 0 rfl) ?_
    refine lv_if_ge (tgt := 24) C.1 C.2.1 dX3_isLess_17 (by decide) (fun c10 => ?_) (fun c10 => ?_)
    · rw [if_pos c10] at hh
      refine lv_iconst (v := 0) C.1 C.2.1 dX3_isLess_24 (by decide) ?_
      exact r_bretP hQ C hr hm hs (by decide) hh dX3_isLess_25
    · rw [if_neg c10] at hh
      refine lv_iconst (v := 1) C.1 C.2.1 dX3_isLess_20 (by decide) ?_
      refine lv_goto (tgt := 25) C.1 C.2.1 dX3_isLess_21 (by decide) ?_
      exact r_bretP hQ C hr hm hs (by decide) hh dX3_isLess_25
def mX3_leastSet_b98 (k42 : MHp → Nat → Int64 → Int32 → Int32 → Int32 → Int32 → Option (Int32 × MHp)) (h : MHp) (a0 : Nat) (v1 : Int64) (v3 : Int32) (v4 : Int32) (v5 : Int32) (v6 : Int32) : Option (Int32 × MHp) := k42 h a0 v1 v3 v4 v5 (v6 + 1)
def mX3_leastSet_l42 : Nat → MHp → Nat → Int64 → Int32 → Int32 → Int32 → Int32 → Option (Int32 × MHp)
  | 0, _, _, _, _, _, _, _ => none
  | n + 1, h, a0, v1, v3, v4, v5, v6 => (if 4096 ≤ v6 then some (v5, h) else (if (1 <<< (v4 &&& 31)) ≤ v6 then some (v5, h) else (if (lg_cmp (v1 &&& (v6 ^^^ (-1)).toInt64) 0) = 0 then (rcv 4 h (some a0)).bind fun b2 => (mX3_isLess h b2 v6 v5).bind fun r1 => (if r1 = 0 then mX3_leastSet_b98 (mX3_leastSet_l42 n) h a0 v1 v3 v4 v5 v6 else (rcv 4 h (some a0)).bind fun b4 => (mX3_isWide h b4 v6.toInt64 v1 v3).bind fun r3 => (if r3.1 = 0 then mX3_leastSet_b98 (mX3_leastSet_l42 n) r3.2 a0 v1 v3 v4 v5 v6 else mX3_leastSet_b98 (mX3_leastSet_l42 n) r3.2 a0 v1 v3 v4 v6 v6)) else mX3_leastSet_b98 (mX3_leastSet_l42 n) h a0 v1 v3 v4 v5 v6)))
def mX3_leastSet (h : MHp) (a0 : Nat) (a1 : Int64) (a2 : Int32) : Option (Int32 × MHp) := (gI 4 6 h (some a0)).bind fun x10 => (gI 4 7 h (some a0)).bind fun x11 => (mJ9_min_7cf53 h (x10 * x11) 12).bind fun r12 => (rcv 4 h (some a0)).bind fun b14 => (mX3_isWide h b14 (((1 <<< (r12 &&& 31)) - 1).toInt64) a1 a2).bind fun r13 => (if r13.1 = 0 then some ((-2), r13.2) else mX3_leastSet_l42 FUEL r13.2 a0 a1 a2 r12 ((1 <<< (r12 &&& 31)) - 1) 0)
set_option maxRecDepth 100000 in
set_option maxHeartbeats 4000000 in
theorem c_X3_leastSet (l : Launch) (G : Env0) (h : MHp) (a0 : Nat) (a1 : Int64) (a2 : Int32) (res : Int32 × MHp) (hh : mX3_leastSet h a0 a1 a2 = some res) : MG l yX3_leastSet cX3_leastSet 7 (some .int) 4 108 0 0 G h [.ref a0, .long a1, .int a2] (some (.int res.1)) (res.2) := by
  refine MG_of (own := RX3) (plainFor_of_name (by decide)) rfl (Nat.le_of_ble_eq_true rfl) ?_
  intro p e s m args below meth c Q ls hQ C X hin hm hs hl hr
  have hl : lv_has ls 7 [(0, va_rf (some a0)), (1, .long a1), (3, .int a2)] := hl
  have B98 : ∀ (k42 : MHp → Nat → Int64 → Int32 → Int32 → Int32 → Int32 → Option (Int32 × MHp)), (∀ (h : MHp) (H : Heap) (locs : List Loc) (ls : Array Slot) (a0 : Nat) (v1 : Int64) (v3 : Int32) (v4 : Int32) (v5 : Int32) (v6 : Int32) , mHp (gD G) (gC G) (gB G) h H → va_S (fun q => gB G ≤ q) s.heap H locs → lv_has ls 7 [(0, va_rf (some a0)), (1, .long v1), (3, .int v3), (4, .int v4), (5, .int v5), (6, .int v6)] → k42 h a0 v1 v3 v4 v5 v6 = some res → W p l e ({ frames := 4, cells := 0, slots := 0, locals := 108 }) s m args below meth c H locs 0 0 Q (F0 m 42 ls [])) → ∀ (h : MHp) (H : Heap) (locs : List Loc) (ls : Array Slot) (a0 : Nat) (v1 : Int64) (v3 : Int32) (v4 : Int32) (v5 : Int32) (v6 : Int32) , mHp (gD G) (gC G) (gB G) h H → va_S (fun q => gB G ≤ q) s.heap H locs → lv_has ls 7 [(0, va_rf (some a0)), (1, .long v1), (3, .int v3), (4, .int v4), (5, .int v5), (6, .int v6)] → mX3_leastSet_b98 k42 h a0 v1 v3 v4 v5 v6 = some res → W p l e ({ frames := 4, cells := 0, slots := 0, locals := 108 }) s m args below meth c H locs 0 0 Q (F0 m 98 ls []) := by
    intro k42 hk42 h H locs ls a0 v1 v3 v4 v5 v6 hm hs hl hh
    unfold mX3_leastSet_b98 at hh
    refine lv_iinc (v := (v6 + 1)) (lv' := [(6, .int (v6 + 1)), (0, va_rf (some a0)), (1, .long v1), (3, .int v3), (4, .int v4), (5, .int v5)]) C.1 C.2.1 dX3_leastSet_98 hl (k := 5) rfl rfl (by decide) rfl (fun ls hl => ?_)
    refine lv_goto (tgt := 42) C.1 C.2.1 dX3_leastSet_101 (by decide) ?_
    exact hk42 _ _ _ _ _ _ _ _ _ _  hm hs (lv_sub hl [1, 2, 3, 4, 5, 0] rfl) hh
  have B42 : ∀ n : Nat, ∀ (h : MHp) (H : Heap) (locs : List Loc) (ls : Array Slot) (a0 : Nat) (v1 : Int64) (v3 : Int32) (v4 : Int32) (v5 : Int32) (v6 : Int32) , mHp (gD G) (gC G) (gB G) h H → va_S (fun q => gB G ≤ q) s.heap H locs → lv_has ls 7 [(0, va_rf (some a0)), (1, .long v1), (3, .int v3), (4, .int v4), (5, .int v5), (6, .int v6)] → mX3_leastSet_l42 n h a0 v1 v3 v4 v5 v6 = some res → W p l e ({ frames := 4, cells := 0, slots := 0, locals := 108 }) s m args below meth c H locs 0 0 Q (F0 m 42 ls []) := by
    intro n
    induction n with
    | zero => intro h H locs ls a0 v1 v3 v4 v5 v6 hm hs hl hh; cases hh
    | succ n ih =>
      intro h H locs ls a0 v1 v3 v4 v5 v6 hm hs hl hh
      unfold mX3_leastSet_l42 at hh
      refine lv_iload C.1 C.2.1 dX3_leastSet_42 (lv_at hl 5 rfl) ?_
      refine lv_sipush (v := 4096) C.1 C.2.1 dX3_leastSet_44 (by decide) ?_
      refine lv_icmp_ge (tgt := 104) C.1 C.2.1 dX3_leastSet_47 (by decide) (fun c9 => ?_) (fun c9 => ?_)
      · rw [if_pos c9] at hh
        refine lv_iload C.1 C.2.1 dX3_leastSet_104 (lv_at hl 4 rfl) ?_
        exact r_iretW hQ C hr hm hs hh dX3_leastSet_106
      · rw [if_neg c9] at hh
        refine lv_iload C.1 C.2.1 dX3_leastSet_50 (lv_at hl 5 rfl) ?_
        refine lv_iconst (v := 1) C.1 C.2.1 dX3_leastSet_52 (by decide) ?_
        refine lv_iload C.1 C.2.1 dX3_leastSet_53 (lv_at hl 3 rfl) ?_
        refine lv_ishl C.1 C.2.1 dX3_leastSet_55 ?_
        refine lv_icmp_ge (tgt := 104) C.1 C.2.1 dX3_leastSet_56 (by decide) (fun c8 => ?_) (fun c8 => ?_)
        · rw [if_pos c8] at hh
          refine lv_iload C.1 C.2.1 dX3_leastSet_104 (lv_at hl 4 rfl) ?_
          exact r_iretW hQ C hr hm hs hh dX3_leastSet_106
        · rw [if_neg c8] at hh
          refine lv_lload_n C.1 C.2.1 dX3_leastSet_59 rfl (lv_at hl 1 rfl) ?_
          refine lv_iload C.1 C.2.1 dX3_leastSet_60 (lv_at hl 5 rfl) ?_
          refine lv_iconst (v := (-1)) C.1 C.2.1 dX3_leastSet_62 (by decide) ?_
          refine lv_ixor C.1 C.2.1 dX3_leastSet_63 ?_
          refine lv_i2l (v := (v6 ^^^ (-1)).toInt64) C.1 C.2.1 dX3_leastSet_64 rfl ?_
          refine lv_land C.1 C.2.1 dX3_leastSet_65 ?_
          refine lv_lconst (v := 0) C.1 C.2.1 dX3_leastSet_66 (by decide) ?_
          refine W.lcmp C.1 C.2.1 dX3_leastSet_67 ?_
          refine lv_if_ne (tgt := 98) C.1 C.2.1 dX3_leastSet_68 (by decide) (fun c7 => ?_) (fun c7 => ?_)
          · rw [if_neg c7] at hh
            exact B98 _ ih _ _ _ _ _ _ _ _ _ _  hm hs (lv_sub hl [0, 1, 2, 3, 4, 5] rfl) hh
          · rw [if_pos c7] at hh
            refine r_aload_n C.1 C.2.1 dX3_leastSet_71 rfl (lv_at hl 0 rfl) ?_
            refine lv_iload C.1 C.2.1 dX3_leastSet_72 (lv_at hl 5 rfl) ?_
            refine lv_iload C.1 C.2.1 dX3_leastSet_74 (lv_at hl 4 rfl) ?_
            refine r_cV C X hm hs mlX3_76 mvX3_76 hh (vv := fun r => some (.int r)) (hp := fun r => h) (fun b r hg => c_X3_isLess l G h b _ _ r hg) rfl rfl (Nat.le_of_ble_eq_true rfl) (Nat.le_of_ble_eq_true rfl) (Nat.le_of_ble_eq_true rfl) hl.1 dX3_leastSet_76 (fun b2 r1 H locs hgr1 hh hm hs => ?_)
            refine W.eq (g2 := F0 m 79 ls [.int r1]) rfl ?_
            refine lv_if_eq (tgt := 98) C.1 C.2.1 dX3_leastSet_79 (by decide) (fun c6 => ?_) (fun c6 => ?_)
            · rw [if_pos c6] at hh
              exact B98 _ ih _ _ _ _ _ _ _ _ _ _  hm hs (lv_sub hl [0, 1, 2, 3, 4, 5] rfl) hh
            · rw [if_neg c6] at hh
              refine r_aload_n C.1 C.2.1 dX3_leastSet_82 rfl (lv_at hl 0 rfl) ?_
              refine lv_iload C.1 C.2.1 dX3_leastSet_83 (lv_at hl 5 rfl) ?_
              refine lv_i2l (v := v6.toInt64) C.1 C.2.1 dX3_leastSet_85 rfl ?_
              refine lv_lload_n C.1 C.2.1 dX3_leastSet_86 rfl (lv_at hl 1 rfl) ?_
              refine lv_iload_n C.1 C.2.1 dX3_leastSet_87 rfl (lv_at hl 2 rfl) ?_
              refine r_cV C X hm hs mlX3_72 mvX3_72 hh (vv := fun r => some (.int r.1)) (hp := fun r => r.2) (fun b r hg => c_X3_isWide l G h b _ _ _ r hg) rfl rfl (Nat.le_of_ble_eq_true rfl) (Nat.le_of_ble_eq_true rfl) (Nat.le_of_ble_eq_true rfl) hl.1 dX3_leastSet_88 (fun b4 r3 H locs hgr3 hh hm hs => ?_)
              refine W.eq (g2 := F0 m 91 ls [.int r3.1]) rfl ?_
              refine lv_if_eq (tgt := 98) C.1 C.2.1 dX3_leastSet_91 (by decide) (fun c5 => ?_) (fun c5 => ?_)
              · rw [if_pos c5] at hh
                exact B98 _ ih _ _ _ _ _ _ _ _ _ _  hm hs (lv_sub hl [0, 1, 2, 3, 4, 5] rfl) hh
              · rw [if_neg c5] at hh
                refine lv_iload C.1 C.2.1 dX3_leastSet_94 (lv_at hl 5 rfl) ?_
                refine lv_istore (i := 5) (lv' := [(5, .int v6), (0, va_rf (some a0)), (1, .long v1), (3, .int v3), (4, .int v4), (6, .int v6)]) C.1 C.2.1 dX3_leastSet_96 hl (by decide) rfl (fun ls hl => ?_)
                exact B98 _ ih _ _ _ _ _ _ _ _ _ _  hm hs (lv_sub hl [1, 2, 3, 4, 0, 5] rfl) hh
  unfold mX3_leastSet at hh
  refine r_aload_n C.1 C.2.1 dX3_leastSet_0 rfl (lv_at hl 0 rfl) ?_
  refine r_getI C hm flX3_27 dX3_leastSet_1 hh (fun x10 _ hh => ?_)
  refine r_aload_n C.1 C.2.1 dX3_leastSet_4 rfl (lv_at hl 0 rfl) ?_
  refine r_getI C hm flX3_31 dX3_leastSet_5 hh (fun x11 _ hh => ?_)
  refine lv_imul C.1 C.2.1 dX3_leastSet_8 ?_
  refine lv_bipush (v := 12) C.1 C.2.1 dX3_leastSet_9 (by decide) ?_
  refine r_cS C X hm hs mlX3_68 msX3_68 hh (vv := fun r => some (.int r)) (hp := fun r => h) (fun r hg => c_J9_min_7cf53 l G h _ _ r hg) rfl rfl (Nat.le_of_ble_eq_true rfl) (Nat.le_of_ble_eq_true rfl) (Nat.le_of_ble_eq_true rfl) hl.1 dX3_leastSet_11 (fun r12 H locs hgr12 hh hm hs => ?_)
  refine W.eq (g2 := F0 m 14 ls [.int r12]) rfl ?_
  refine lv_istore (i := 4) (lv' := [(4, .int r12), (0, va_rf (some a0)), (1, .long a1), (3, .int a2)]) C.1 C.2.1 dX3_leastSet_14 hl (by decide) rfl (fun ls hl => ?_)
  refine lv_iconst (v := 1) C.1 C.2.1 dX3_leastSet_16 (by decide) ?_
  refine lv_iload C.1 C.2.1 dX3_leastSet_17 (lv_at hl 0 rfl) ?_
  refine lv_ishl C.1 C.2.1 dX3_leastSet_19 ?_
  refine lv_iconst (v := 1) C.1 C.2.1 dX3_leastSet_20 (by decide) ?_
  refine lv_isub C.1 C.2.1 dX3_leastSet_21 ?_
  refine lv_istore (i := 5) (lv' := [(5, .int ((1 <<< (r12 &&& 31)) - 1)), (4, .int r12), (0, va_rf (some a0)), (1, .long a1), (3, .int a2)]) C.1 C.2.1 dX3_leastSet_22 hl (by decide) rfl (fun ls hl => ?_)
  refine r_aload_n C.1 C.2.1 dX3_leastSet_24 rfl (lv_at hl 2 rfl) ?_
  refine lv_iload C.1 C.2.1 dX3_leastSet_25 (lv_at hl 0 rfl) ?_
  refine lv_i2l (v := ((1 <<< (r12 &&& 31)) - 1).toInt64) C.1 C.2.1 dX3_leastSet_27 rfl ?_
  refine lv_lload_n C.1 C.2.1 dX3_leastSet_28 rfl (lv_at hl 3 rfl) ?_
  refine lv_iload_n C.1 C.2.1 dX3_leastSet_29 rfl (lv_at hl 4 rfl) ?_
  refine r_cV C X hm hs mlX3_72 mvX3_72 hh (vv := fun r => some (.int r.1)) (hp := fun r => r.2) (fun b r hg => c_X3_isWide l G h b _ _ _ r hg) rfl rfl (Nat.le_of_ble_eq_true rfl) (Nat.le_of_ble_eq_true rfl) (Nat.le_of_ble_eq_true rfl) hl.1 dX3_leastSet_30 (fun b14 r13 H locs hgr13 hh hm hs => ?_)
  refine W.eq (g2 := F0 m 33 ls [.int r13.1]) rfl ?_
  refine lv_if_ne (tgt := 39) C.1 C.2.1 dX3_leastSet_33 (by decide) (fun c15 => ?_) (fun c15 => ?_)
  · rw [if_neg c15] at hh
    refine lv_iconst (v := 0) C.1 C.2.1 dX3_leastSet_39 (by decide) ?_
    refine lv_istore (i := 6) (lv' := [(6, .int 0), (5, .int ((1 <<< (r12 &&& 31)) - 1)), (4, .int r12), (0, va_rf (some a0)), (1, .long a1), (3, .int a2)]) C.1 C.2.1 dX3_leastSet_40 hl (by decide) rfl (fun ls hl => ?_)
    exact B42 FUEL _ _ _ _ _ _ _ _ _ _  hm hs (lv_sub hl [3, 4, 5, 2, 1, 0] rfl) hh
  · rw [if_pos c15] at hh
    refine lv_bipush (v := (-2)) C.1 C.2.1 dX3_leastSet_36 (by decide) ?_
    exact r_iretW hQ C hr hm hs hh dX3_leastSet_38

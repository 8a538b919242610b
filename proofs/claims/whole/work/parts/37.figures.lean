def mX2_init (h : MHp) (a0 : Nat) (a1 : Option Nat) : Option (MHp) := (some (nA h 20 6)).bind fun h1 => (pR 3 1 h1 (some a0) (some (hS h))).bind fun h2 => (pR 3 0 h2 (some a0) a1).bind fun h3 => some h3
set_option maxRecDepth 100000 in
set_option maxHeartbeats 4000000 in
theorem c_X2_init (l : Launch) (G : Env0) (h : MHp) (a0 : Nat) (a1 : Option Nat) (res : MHp) (hh : mX2_init h a0 a1 = some res) : MG l yX2_init cX2_init 2 none 1 12 1 6 G h [.ref a0, va_rf a1] (none) (res) := by
  refine MG_of (own := RX2) (plainFor_of_name (by decide)) rfl (by simp [lg_sl, va_cat, vc_i, vc_l, vc_r]) ?_
  intro p e s m args below meth c Q ls hQ C X hin hm hs hl hr
  have hl : lv_has ls 2 [(0, .ref a0), (1, va_rf a1)] := by simpa [lv_args, va_cat, vc_i, vc_l, vc_r] using hl
  have hl : lv_has ls 2 [(0, va_rf (some a0)), (1, va_rf a1)] := hl
  unfold mX2_init at hh
  refine r_aload_n C.1 C.2.1 dX2_init_0 rfl (lv_at hl 0 rfl) ?_
  refine r_objInit C (in_tbl q_289 rfl) (in_tbl q_37 rfl) (in_tbl q_38 rfl) hl.1 dX2_init_1 (Nat.le_of_ble_eq_true rfl) (Nat.le_of_ble_eq_true rfl) ?_
  refine r_aload_n C.1 C.2.1 dX2_init_4 rfl (lv_at hl 0 rfl) ?_
  refine lv_bipush (v := 6) C.1 C.2.1 dX2_init_5 (by decide) ?_
  refine r_newaG C hm hs (kd := 20) (w := 4) (by decide) aw20 dX2_init_7 (N := 6) (by decide) (by decide) (by decide) hh (Nat.le_of_ble_eq_true rfl) (Nat.le_of_ble_eq_true rfl) (fun h1 H hh hm hs => ?_)
  refine r_putR C hm hs flX2_9 (Or.inr ⟨ffX2_9, hin rfl⟩) dX2_init_9 hh (fun h2 H locs _ hh hm hs => ?_)
  refine r_aload_n C.1 C.2.1 dX2_init_12 rfl (lv_at hl 0 rfl) ?_
  refine r_aload_n C.1 C.2.1 dX2_init_13 rfl (lv_at hl 1 rfl) ?_
  refine r_putR C hm hs flX2_15 (Or.inr ⟨ffX2_15, hin rfl⟩) dX2_init_14 hh (fun h3 H locs _ hh hm hs => ?_)
  refine W.widen (k := 1) (n := 6) (by omega) (by omega) ?_
  exact r_vretW hQ C hr hm hs hh dX2_init_17
def mX2_looksAt (h : MHp) (a0 : Nat) (a1 : Int32) (a2 : Int32) (a3 : Int32) : Option (Int32 × MHp) := (gR 3 0 h (some a0)).bind fun x1 => (rcv 10 h x1).bind fun b3 => (mX9_isThere h b3 a1 a2).bind fun r2 => (if r2 = 0 then some (0, h) else (gR 3 0 h (some a0)).bind fun x4 => (gR 3 1 h (some a0)).bind fun x5 => (rcv 10 h x4).bind fun b7 => (mX9_load h b7 a1 a2 a3 x5).bind fun r6 => (gR 3 0 r6 (some a0)).bind fun x8 => (gR 10 5 r6 x8).bind fun x9 => (gR 3 1 r6 (some a0)).bind fun x10 => (rcv 2 r6 x9).bind fun b12 => (mX1_ruleThatHolds r6 b12 x10).bind fun r11 => (if r11 = (-2) then some (1, r6) else some (0, r6)))
set_option maxRecDepth 100000 in
set_option maxHeartbeats 4000000 in
theorem c_X2_looksAt (l : Launch) (G : Env0) (h : MHp) (a0 : Nat) (a1 : Int32) (a2 : Int32) (a3 : Int32) (res : Int32 × MHp) (hh : mX2_looksAt h a0 a1 a2 a3 = some res) : MG l yX2_looksAt cX2_looksAt 4 (some .boolean) 3 73 0 0 G h [.ref a0, .int a1, .int a2, .int a3] (some (.int res.1)) (res.2) := by
  refine MG_of (own := RX2) (plainFor_of_name (by decide)) rfl (Nat.le_of_ble_eq_true rfl) ?_
  intro p e s m args below meth c Q ls hQ C X hin hm hs hl hr
  have hl : lv_has ls 4 [(0, va_rf (some a0)), (1, .int a1), (2, .int a2), (3, .int a3)] := hl
  unfold mX2_looksAt at hh
  refine r_aload_n C.1 C.2.1 dX2_looksAt_0 rfl (lv_at hl 0 rfl) ?_
  refine r_getR C hm flX2_15 dX2_looksAt_1 hh (fun x1 _ hh => ?_)
  refine lv_iload_n C.1 C.2.1 dX2_looksAt_4 rfl (lv_at hl 1 rfl) ?_
  refine lv_iload_n C.1 C.2.1 dX2_looksAt_5 rfl (lv_at hl 2 rfl) ?_
  refine r_cV C X hm hs mlX2_19 mvX2_19 hh (vv := fun r => some (.int r)) (hp := fun r => h) (fun b r hg => c_X9_isThere l G h b _ _ r hg) rfl rfl (Nat.le_of_ble_eq_true rfl) (Nat.le_of_ble_eq_true rfl) (Nat.le_of_ble_eq_true rfl) hl.1 dX2_looksAt_6 (fun b3 r2 H locs hgr2 hh hm hs => ?_)
  refine W.eq (g2 := F0 m 9 ls [.int r2]) rfl ?_
  refine lv_if_ne (tgt := 14) C.1 C.2.1 dX2_looksAt_9 (by decide) (fun c14 => ?_) (fun c14 => ?_)
  · rw [if_neg c14] at hh
    refine r_aload_n C.1 C.2.1 dX2_looksAt_14 rfl (lv_at hl 0 rfl) ?_
    refine r_getR C hm flX2_15 dX2_looksAt_15 hh (fun x4 _ hh => ?_)
    refine lv_iload_n C.1 C.2.1 dX2_looksAt_18 rfl (lv_at hl 1 rfl) ?_
    refine lv_iload_n C.1 C.2.1 dX2_looksAt_19 rfl (lv_at hl 2 rfl) ?_
    refine lv_iload_n C.1 C.2.1 dX2_looksAt_20 rfl (lv_at hl 3 rfl) ?_
    refine r_aload_n C.1 C.2.1 dX2_looksAt_21 rfl (lv_at hl 0 rfl) ?_
    refine r_getR C hm flX2_9 dX2_looksAt_22 hh (fun x5 _ hh => ?_)
    refine r_cV C X hm hs mlX2_25 mvX2_25 hh (vv := fun r => none) (hp := fun r => r) (fun b r hg => c_X9_load l G h b _ _ _ _ r hg) rfl rfl (Nat.le_of_ble_eq_true rfl) (Nat.le_of_ble_eq_true rfl) (Nat.le_of_ble_eq_true rfl) hl.1 dX2_looksAt_25 (fun b7 r6 H locs hgr6 hh hm hs => ?_)
    refine W.eq (g2 := F0 m 28 ls []) rfl ?_
    refine r_aload_n C.1 C.2.1 dX2_looksAt_28 rfl (lv_at hl 0 rfl) ?_
    refine r_getR C hm flX2_15 dX2_looksAt_29 hh (fun x8 _ hh => ?_)
    refine r_getR C hm flX2_29 dX2_looksAt_32 hh (fun x9 _ hh => ?_)
    refine r_aload_n C.1 C.2.1 dX2_looksAt_35 rfl (lv_at hl 0 rfl) ?_
    refine r_getR C hm flX2_9 dX2_looksAt_36 hh (fun x10 _ hh => ?_)
    refine r_cV C X hm hs mlX2_33 mvX2_33 hh (vv := fun r => some (.int r)) (hp := fun r => r6) (fun b r hg => c_X1_ruleThatHolds l G r6 b _ r hg) rfl rfl (Nat.le_of_ble_eq_true rfl) (Nat.le_of_ble_eq_true rfl) (Nat.le_of_ble_eq_true rfl) hl.1 dX2_looksAt_39 (fun b12 r11 H locs hgr11 hh hm hs => ?_)
    refine W.eq (g2 := F0 m 42 ls [.int r11]) rfl ?_
    refine lv_bipush (v := (-2)) C.1 C.2.1 dX2_looksAt_42 (by decide) ?_
    refine lv_icmp_ne (tgt := 51) C.1 C.2.1 dX2_looksAt_44 (by decide) (fun c13 => ?_) (fun c13 => ?_)
    · rw [if_neg c13] at hh
      refine lv_iconst (v := 0) C.1 C.2.1 dX2_looksAt_51 (by decide) ?_
      exact r_bretW hQ C hr hm hs (by decide) hh dX2_looksAt_52
    · rw [if_pos c13] at hh
      refine lv_iconst (v := 1) C.1 C.2.1 dX2_looksAt_47 (by decide) ?_
      refine lv_goto (tgt := 52) C.1 C.2.1 dX2_looksAt_48 (by decide) ?_
      exact r_bretW hQ C hr hm hs (by decide) hh dX2_looksAt_52
  · rw [if_pos c14] at hh
    refine lv_iconst (v := 0) C.1 C.2.1 dX2_looksAt_12 (by decide) ?_
    exact r_bretW hQ C hr hm hs (by decide) hh dX2_looksAt_13
def mX2_sumOf_b75 (k6 : MHp → Nat → Option Nat → Int32 → Int32 → Int32 → Int64 → Int32 → Option (Int64 × MHp)) (h : MHp) (a0 : Nat) (v1 : Option Nat) (v2 : Int32) (v3 : Int32) (v4 : Int32) (v5 : Int64) (v7 : Int32) : Option (Int64 × MHp) := k6 h a0 v1 v2 v3 v4 v5 (v7 + 1)
def mX2_sumOf_l6 : Nat → MHp → Nat → Option Nat → Int32 → Int32 → Int32 → Int64 → Int32 → Option (Int64 × MHp)
  | 0, _, _, _, _, _, _, _, _ => none
  | n + 1, h, a0, v1, v2, v3, v4, v5, v7 => (gR 3 0 h (some a0)).bind fun x1 => (gI 10 6 h x1).bind fun x2 => (if x2 ≤ v7 then some (v5, h) else (if 60 ≤ v7 then some (v5, h) else (rcv 3 h (some a0)).bind fun b4 => (mX2_looksAt h b4 v7 v3 v4).bind fun r3 => (if r3.1 = 0 then mX2_sumOf_b75 (mX2_sumOf_l6 n) r3.2 a0 v1 v2 v3 v4 v5 v7 else (gR 3 1 r3.2 (some a0)).bind fun x5 => (rcv 8 r3.2 v1).bind fun b7 => (mX7_cellOf r3.2 b7 x5).bind fun r6 => (if r6 = v2 then (gR 3 0 r3.2 (some a0)).bind fun x8 => (gR 10 4 r3.2 x8).bind fun x9 => (gAI 20 r3.2 x9 v7).bind fun x10 => (gR 3 1 r3.2 (some a0)).bind fun x11 => (rcv 8 r3.2 v1).bind fun b13 => (mX7_timesOf r3.2 b13 x11).bind fun r12 => mX2_sumOf_b75 (mX2_sumOf_l6 n) r3.2 a0 v1 v2 v3 v4 (v5 + (x10.toInt64 * r12.toInt64)) v7 else mX2_sumOf_b75 (mX2_sumOf_l6 n) r3.2 a0 v1 v2 v3 v4 v5 v7))))
def mX2_sumOf (h : MHp) (a0 : Nat) (a1 : Option Nat) (a2 : Int32) (a3 : Int32) (a4 : Int32) : Option (Int64 × MHp) := mX2_sumOf_l6 FUEL h a0 a1 a2 a3 a4 0 0
set_option maxRecDepth 100000 in
set_option maxHeartbeats 4000000 in
theorem c_X2_sumOf (l : Launch) (G : Env0) (h : MHp) (a0 : Nat) (a1 : Option Nat) (a2 : Int32) (a3 : Int32) (a4 : Int32) (res : Int64 × MHp) (hh : mX2_sumOf h a0 a1 a2 a3 a4 = some res) : MG l yX2_sumOf cX2_sumOf 8 (some .long) 4 96 0 0 G h [.ref a0, va_rf a1, .int a2, .int a3, .int a4] (some (.long res.1)) (res.2) := by
  refine MG_of (own := RX2) (plainFor_of_name (by decide)) rfl (by simp [lg_sl, va_cat, vc_i, vc_l, vc_r]) ?_
  intro p e s m args below meth c Q ls hQ C X hin hm hs hl hr
  have hl : lv_has ls 8 [(0, .ref a0), (1, va_rf a1), (2, .int a2), (3, .int a3), (4, .int a4)] := by simpa [lv_args, va_cat, vc_i, vc_l, vc_r] using hl
  have hl : lv_has ls 8 [(0, va_rf (some a0)), (1, va_rf a1), (2, .int a2), (3, .int a3), (4, .int a4)] := hl
  have B75 : ∀ (k6 : MHp → Nat → Option Nat → Int32 → Int32 → Int32 → Int64 → Int32 → Option (Int64 × MHp)), (∀ (h : MHp) (H : Heap) (locs : List Loc) (ls : Array Slot) (a0 : Nat) (v1 : Option Nat) (v2 : Int32) (v3 : Int32) (v4 : Int32) (v5 : Int64) (v7 : Int32) , mHp (gD G) (gC G) (gB G) h H → va_S (fun q => gB G ≤ q) s.heap H locs → lv_has ls 8 [(0, va_rf (some a0)), (1, va_rf v1), (2, .int v2), (3, .int v3), (4, .int v4), (5, .long v5), (7, .int v7)] → k6 h a0 v1 v2 v3 v4 v5 v7 = some res → W p l e ({ frames := 4, cells := 0, slots := 0, locals := 96 }) s m args below meth c H locs 0 0 Q (F0 m 6 ls [])) → ∀ (h : MHp) (H : Heap) (locs : List Loc) (ls : Array Slot) (a0 : Nat) (v1 : Option Nat) (v2 : Int32) (v3 : Int32) (v4 : Int32) (v5 : Int64) (v7 : Int32) , mHp (gD G) (gC G) (gB G) h H → va_S (fun q => gB G ≤ q) s.heap H locs → lv_has ls 8 [(0, va_rf (some a0)), (1, va_rf v1), (2, .int v2), (3, .int v3), (4, .int v4), (5, .long v5), (7, .int v7)] → mX2_sumOf_b75 k6 h a0 v1 v2 v3 v4 v5 v7 = some res → W p l e ({ frames := 4, cells := 0, slots := 0, locals := 96 }) s m args below meth c H locs 0 0 Q (F0 m 75 ls []) := by
    intro k6 hk6 h H locs ls a0 v1 v2 v3 v4 v5 v7 hm hs hl hh
    unfold mX2_sumOf_b75 at hh
    refine lv_iinc (v := (v7 + 1)) (lv' := [(7, .int (v7 + 1)), (0, va_rf (some a0)), (1, va_rf v1), (2, .int v2), (3, .int v3), (4, .int v4), (5, .long v5)]) C.1 C.2.1 dX2_sumOf_75 hl (k := 6) rfl rfl (by decide) rfl (fun ls hl => ?_)
    refine lv_goto (tgt := 6) C.1 C.2.1 dX2_sumOf_78 (by decide) ?_
    exact hk6 _ _ _ _ _ _ _ _ _ _ _  hm hs (lv_sub hl [1, 2, 3, 4, 5, 6, 0] rfl) hh
  have B6 : ∀ n : Nat, ∀ (h : MHp) (H : Heap) (locs : List Loc) (ls : Array Slot) (a0 : Nat) (v1 : Option Nat) (v2 : Int32) (v3 : Int32) (v4 : Int32) (v5 : Int64) (v7 : Int32) , mHp (gD G) (gC G) (gB G) h H → va_S (fun q => gB G ≤ q) s.heap H locs → lv_has ls 8 [(0, va_rf (some a0)), (1, va_rf v1), (2, .int v2), (3, .int v3), (4, .int v4), (5, .long v5), (7, .int v7)] → mX2_sumOf_l6 n h a0 v1 v2 v3 v4 v5 v7 = some res → W p l e ({ frames := 4, cells := 0, slots := 0, locals := 96 }) s m args below meth c H locs 0 0 Q (F0 m 6 ls []) := by
    intro n
    induction n with
    | zero => intro h H locs ls a0 v1 v2 v3 v4 v5 v7 hm hs hl hh; cases hh
    | succ n ih =>
      intro h H locs ls a0 v1 v2 v3 v4 v5 v7 hm hs hl hh
      unfold mX2_sumOf_l6 at hh
      refine lv_iload C.1 C.2.1 dX2_sumOf_6 (lv_at hl 6 rfl) ?_
      refine r_aload_n C.1 C.2.1 dX2_sumOf_8 rfl (lv_at hl 0 rfl) ?_
      refine r_getR C hm flX2_15 dX2_sumOf_9 hh (fun x1 _ hh => ?_)
      refine r_getI C hm flX2_39 dX2_sumOf_12 hh (fun x2 _ hh => ?_)
      refine lv_icmp_ge (tgt := 81) C.1 C.2.1 dX2_sumOf_15 (by decide) (fun c17 => ?_) (fun c17 => ?_)
      · rw [if_pos c17] at hh
        refine lv_lload C.1 C.2.1 dX2_sumOf_81 (lv_at hl 5 rfl) ?_
        exact r_lretW hQ C hr hm hs hh dX2_sumOf_83
      · rw [if_neg c17] at hh
        refine lv_iload C.1 C.2.1 dX2_sumOf_18 (lv_at hl 6 rfl) ?_
        refine lv_bipush (v := 60) C.1 C.2.1 dX2_sumOf_20 (by decide) ?_
        refine lv_icmp_ge (tgt := 81) C.1 C.2.1 dX2_sumOf_22 (by decide) (fun c16 => ?_) (fun c16 => ?_)
        · rw [if_pos c16] at hh
          refine lv_lload C.1 C.2.1 dX2_sumOf_81 (lv_at hl 5 rfl) ?_
          exact r_lretW hQ C hr hm hs hh dX2_sumOf_83
        · rw [if_neg c16] at hh
          refine r_aload_n C.1 C.2.1 dX2_sumOf_25 rfl (lv_at hl 0 rfl) ?_
          refine lv_iload C.1 C.2.1 dX2_sumOf_26 (lv_at hl 6 rfl) ?_
          refine lv_iload_n C.1 C.2.1 dX2_sumOf_28 rfl (lv_at hl 3 rfl) ?_
          refine lv_iload C.1 C.2.1 dX2_sumOf_29 (lv_at hl 4 rfl) ?_
          refine r_cV C X hm hs mlX2_43 mvX2_43 hh (vv := fun r => some (.int r.1)) (hp := fun r => r.2) (fun b r hg => c_X2_looksAt l G h b _ _ _ r hg) rfl rfl (Nat.le_of_ble_eq_true rfl) (Nat.le_of_ble_eq_true rfl) (Nat.le_of_ble_eq_true rfl) hl.1 dX2_sumOf_31 (fun b4 r3 H locs hgr3 hh hm hs => ?_)
          refine W.eq (g2 := F0 m 34 ls [.int r3.1]) rfl ?_
          refine lv_if_eq (tgt := 75) C.1 C.2.1 dX2_sumOf_34 (by decide) (fun c15 => ?_) (fun c15 => ?_)
          · rw [if_pos c15] at hh
            exact B75 _ ih _ _ _ _ _ _ _ _ _ _ _  hm hs (lv_sub hl [0, 1, 2, 3, 4, 5, 6] rfl) hh
          · rw [if_neg c15] at hh
            refine r_aload_n C.1 C.2.1 dX2_sumOf_37 rfl (lv_at hl 1 rfl) ?_
            refine r_aload_n C.1 C.2.1 dX2_sumOf_38 rfl (lv_at hl 0 rfl) ?_
            refine r_getR C hm flX2_9 dX2_sumOf_39 hh (fun x5 _ hh => ?_)
            refine r_cV C X hm hs mlX2_47 mvX2_47 hh (vv := fun r => some (.int r)) (hp := fun r => r3.2) (fun b r hg => c_X7_cellOf l G r3.2 b _ r hg) rfl rfl (Nat.le_of_ble_eq_true rfl) (Nat.le_of_ble_eq_true rfl) (Nat.le_of_ble_eq_true rfl) hl.1 dX2_sumOf_42 (fun b7 r6 H locs hgr6 hh hm hs => ?_)
            refine W.eq (g2 := F0 m 45 ls [.int r6]) rfl ?_
            refine lv_iload_n C.1 C.2.1 dX2_sumOf_45 rfl (lv_at hl 2 rfl) ?_
            refine lv_icmp_ne (tgt := 75) C.1 C.2.1 dX2_sumOf_46 (by decide) (fun c14 => ?_) (fun c14 => ?_)
            · rw [if_neg c14] at hh
              exact B75 _ ih _ _ _ _ _ _ _ _ _ _ _  hm hs (lv_sub hl [0, 1, 2, 3, 4, 5, 6] rfl) hh
            · rw [if_pos c14] at hh
              refine lv_lload C.1 C.2.1 dX2_sumOf_49 (lv_at hl 5 rfl) ?_
              refine r_aload_n C.1 C.2.1 dX2_sumOf_51 rfl (lv_at hl 0 rfl) ?_
              refine r_getR C hm flX2_15 dX2_sumOf_52 hh (fun x8 _ hh => ?_)
              refine r_getR C hm flX2_52 dX2_sumOf_55 hh (fun x9 _ hh => ?_)
              refine lv_iload C.1 C.2.1 dX2_sumOf_58 (lv_at hl 6 rfl) ?_
              refine r_ald C hm dX2_sumOf_60 hh (fun x10 _ hh => ?_)
              refine lv_i2l (v := x10.toInt64) C.1 C.2.1 dX2_sumOf_61 rfl ?_
              refine r_aload_n C.1 C.2.1 dX2_sumOf_62 rfl (lv_at hl 1 rfl) ?_
              refine r_aload_n C.1 C.2.1 dX2_sumOf_63 rfl (lv_at hl 0 rfl) ?_
              refine r_getR C hm flX2_9 dX2_sumOf_64 hh (fun x11 _ hh => ?_)
              refine r_cV C X hm hs mlX2_55 mvX2_55 hh (vv := fun r => some (.int r)) (hp := fun r => r3.2) (fun b r hg => c_X7_timesOf l G r3.2 b _ r hg) rfl rfl (Nat.le_of_ble_eq_true rfl) (Nat.le_of_ble_eq_true rfl) (Nat.le_of_ble_eq_true rfl) hl.1 dX2_sumOf_67 (fun b13 r12 H locs hgr12 hh hm hs => ?_)
              refine W.eq (g2 := F0 m 70 ls [.int r12, .long x10.toInt64, .long v5]) rfl ?_
              refine lv_i2l (v := r12.toInt64) C.1 C.2.1 dX2_sumOf_70 rfl ?_
              refine lv_lmul C.1 C.2.1 dX2_sumOf_71 ?_
              refine lv_ladd C.1 C.2.1 dX2_sumOf_72 ?_
              refine lv_lstore (i := 5) (lv' := [(5, .long (v5 + (x10.toInt64 * r12.toInt64))), (0, va_rf (some a0)), (1, va_rf v1), (2, .int v2), (3, .int v3), (4, .int v4), (7, .int v7)]) C.1 C.2.1 dX2_sumOf_73 hl (by decide) rfl (fun ls hl => ?_)
              exact B75 _ ih _ _ _ _ _ _ _ _ _ _ _  hm hs (lv_sub hl [1, 2, 3, 4, 5, 0, 6] rfl) hh
  unfold mX2_sumOf at hh
  refine lv_lconst (v := 0) C.1 C.2.1 dX2_sumOf_0 (by decide) ?_
  refine lv_lstore (i := 5) (lv' := [(5, .long 0), (0, va_rf (some a0)), (1, va_rf a1), (2, .int a2), (3, .int a3), (4, .int a4)]) C.1 C.2.1 dX2_sumOf_1 hl (by decide) rfl (fun ls hl => ?_)
  refine lv_iconst (v := 0) C.1 C.2.1 dX2_sumOf_3 (by decide) ?_
  refine lv_istore (i := 7) (lv' := [(7, .int 0), (5, .long 0), (0, va_rf (some a0)), (1, va_rf a1), (2, .int a2), (3, .int a3), (4, .int a4)]) C.1 C.2.1 dX2_sumOf_4 hl (by decide) rfl (fun ls hl => ?_)
  exact B6 FUEL _ _ _ _ _ _ _ _ _ _ _  hm hs (lv_sub hl [2, 3, 4, 5, 6, 1, 0] rfl) hh
def mX2_countRows_b64 (k7 : MHp → Nat → Option Nat → Option Nat → Int32 → Option (MHp)) (h : MHp) (a0 : Nat) (v1 : Option Nat) (v2 : Option Nat) (v3 : Int32) : Option (MHp) := k7 h a0 v1 v2 (v3 + 1)
def mX2_countRows_l7 : Nat → MHp → Nat → Option Nat → Option Nat → Int32 → Option (MHp)
  | 0, _, _, _, _, _ => none
  | n + 1, h, a0, v1, v2, v3 => (gR 3 0 h (some a0)).bind fun x1 => (gI 10 6 h x1).bind fun x2 => (if x2 ≤ v3 then some h else (gR 3 0 h (some a0)).bind fun x3 => (gI 10 7 h x3).bind fun x4 => (rcv 3 h (some a0)).bind fun b6 => (mX2_looksAt h b6 v3 x4 0).bind fun r5 => (if r5.1 = 0 then mX2_countRows_b64 (mX2_countRows_l7 n) r5.2 a0 v1 v2 v3 else (gR 3 1 r5.2 (some a0)).bind fun x7 => (rcv 8 r5.2 v1).bind fun b9 => (mX7_cellOf r5.2 b9 x7).bind fun r8 => (if r8 < 0 then mX2_countRows_b64 (mX2_countRows_l7 n) r5.2 a0 v1 v2 v3 else (gN 20 r5.2 v2).bind fun x10 => (if x10 ≤ r8 then mX2_countRows_b64 (mX2_countRows_l7 n) r5.2 a0 v1 v2 v3 else (gAI 20 r5.2 v2 r8).bind fun x11 => (pAI 20 r5.2 v2 r8 (x11 + 1)).bind fun h12 => mX2_countRows_b64 (mX2_countRows_l7 n) h12 a0 v1 v2 v3))))
def mX2_countRows (h : MHp) (a0 : Nat) (a1 : Option Nat) (a2 : Option Nat) : Option (MHp) := (mJ7_fill_53178 h a2 0).bind fun r17 => mX2_countRows_l7 FUEL r17 a0 a1 a2 0
set_option maxRecDepth 100000 in
set_option maxHeartbeats 4000000 in
theorem c_X2_countRows (l : Launch) (G : Env0) (h : MHp) (a0 : Nat) (a1 : Option Nat) (a2 : Option Nat) (res : MHp) (hh : mX2_countRows h a0 a1 a2 = some res) : MG l yX2_countRows cX2_countRows 5 none 4 96 0 0 G h [.ref a0, va_rf a1, va_rf a2] (none) (res) := by
  refine MG_of (own := RX2) (plainFor_of_name (by decide)) rfl (by simp [lg_sl, va_cat, vc_i, vc_l, vc_r]) ?_
  intro p e s m args below meth c Q ls hQ C X hin hm hs hl hr
  have hl : lv_has ls 5 [(0, .ref a0), (1, va_rf a1), (2, va_rf a2)] := by simpa [lv_args, va_cat, vc_i, vc_l, vc_r] using hl
  have hl : lv_has ls 5 [(0, va_rf (some a0)), (1, va_rf a1), (2, va_rf a2)] := hl
  have B64 : ∀ (k7 : MHp → Nat → Option Nat → Option Nat → Int32 → Option (MHp)), (∀ (h : MHp) (H : Heap) (locs : List Loc) (ls : Array Slot) (a0 : Nat) (v1 : Option Nat) (v2 : Option Nat) (v3 : Int32) , mHp (gD G) (gC G) (gB G) h H → va_S (fun q => gB G ≤ q) s.heap H locs → lv_has ls 5 [(0, va_rf (some a0)), (1, va_rf v1), (2, va_rf v2), (3, .int v3)] → k7 h a0 v1 v2 v3 = some res → W p l e ({ frames := 4, cells := 0, slots := 0, locals := 96 }) s m args below meth c H locs 0 0 Q (F0 m 7 ls [])) → ∀ (h : MHp) (H : Heap) (locs : List Loc) (ls : Array Slot) (a0 : Nat) (v1 : Option Nat) (v2 : Option Nat) (v3 : Int32) , mHp (gD G) (gC G) (gB G) h H → va_S (fun q => gB G ≤ q) s.heap H locs → lv_has ls 5 [(0, va_rf (some a0)), (1, va_rf v1), (2, va_rf v2), (3, .int v3)] → mX2_countRows_b64 k7 h a0 v1 v2 v3 = some res → W p l e ({ frames := 4, cells := 0, slots := 0, locals := 96 }) s m args below meth c H locs 0 0 Q (F0 m 64 ls []) := by
    intro k7 hk7 h H locs ls a0 v1 v2 v3 hm hs hl hh
    unfold mX2_countRows_b64 at hh
    refine lv_iinc (v := (v3 + 1)) (lv' := [(3, .int (v3 + 1)), (0, va_rf (some a0)), (1, va_rf v1), (2, va_rf v2)]) C.1 C.2.1 dX2_countRows_64 hl (k := 3) rfl rfl (by decide) (by simp [va_cat, vc_i, vc_l, vc_r]) (fun ls hl => ?_)
    refine lv_goto (tgt := 7) C.1 C.2.1 dX2_countRows_67 (by decide) ?_
    exact hk7 _ _ _ _ _ _ _ _  hm hs (lv_sub hl [1, 2, 3, 0] rfl) hh
  have B7 : ∀ n : Nat, ∀ (h : MHp) (H : Heap) (locs : List Loc) (ls : Array Slot) (a0 : Nat) (v1 : Option Nat) (v2 : Option Nat) (v3 : Int32) , mHp (gD G) (gC G) (gB G) h H → va_S (fun q => gB G ≤ q) s.heap H locs → lv_has ls 5 [(0, va_rf (some a0)), (1, va_rf v1), (2, va_rf v2), (3, .int v3)] → mX2_countRows_l7 n h a0 v1 v2 v3 = some res → W p l e ({ frames := 4, cells := 0, slots := 0, locals := 96 }) s m args below meth c H locs 0 0 Q (F0 m 7 ls []) := by
    intro n
    induction n with
    | zero => intro h H locs ls a0 v1 v2 v3 hm hs hl hh; cases hh
    | succ n ih =>
      intro h H locs ls a0 v1 v2 v3 hm hs hl hh
      unfold mX2_countRows_l7 at hh
      refine lv_iload_n C.1 C.2.1 dX2_countRows_7 rfl (lv_at hl 3 rfl) ?_
      refine r_aload_n C.1 C.2.1 dX2_countRows_8 rfl (lv_at hl 0 rfl) ?_
      refine r_getR C hm flX2_15 dX2_countRows_9 hh (fun x1 _ hh => ?_)
      refine r_getI C hm flX2_39 dX2_countRows_12 hh (fun x2 _ hh => ?_)
      refine lv_icmp_ge (tgt := 70) C.1 C.2.1 dX2_countRows_15 (by decide) (fun c16 => ?_) (fun c16 => ?_)
      · rw [if_pos c16] at hh
        exact r_vretW hQ C hr hm hs hh dX2_countRows_70
      · rw [if_neg c16] at hh
        refine r_aload_n C.1 C.2.1 dX2_countRows_18 rfl (lv_at hl 0 rfl) ?_
        refine lv_iload_n C.1 C.2.1 dX2_countRows_19 rfl (lv_at hl 3 rfl) ?_
        refine r_aload_n C.1 C.2.1 dX2_countRows_20 rfl (lv_at hl 0 rfl) ?_
        refine r_getR C hm flX2_15 dX2_countRows_21 hh (fun x3 _ hh => ?_)
        refine r_getI C hm flX2_64 dX2_countRows_24 hh (fun x4 _ hh => ?_)
        refine lv_iconst (v := 0) C.1 C.2.1 dX2_countRows_27 (by decide) ?_
        refine r_cV C X hm hs mlX2_43 mvX2_43 hh (vv := fun r => some (.int r.1)) (hp := fun r => r.2) (fun b r hg => c_X2_looksAt l G h b _ _ _ r hg) rfl rfl (Nat.le_of_ble_eq_true rfl) (Nat.le_of_ble_eq_true rfl) (Nat.le_of_ble_eq_true rfl) hl.1 dX2_countRows_28 (fun b6 r5 H locs hgr5 hh hm hs => ?_)
        refine W.eq (g2 := F0 m 31 ls [.int r5.1]) rfl ?_
        refine lv_if_eq (tgt := 64) C.1 C.2.1 dX2_countRows_31 (by decide) (fun c15 => ?_) (fun c15 => ?_)
        · rw [if_pos c15] at hh
          exact B64 _ ih _ _ _ _ _ _ _ _  hm hs (lv_sub hl [0, 1, 2, 3] rfl) hh
        · rw [if_neg c15] at hh
          refine r_aload_n C.1 C.2.1 dX2_countRows_34 rfl (lv_at hl 1 rfl) ?_
          refine r_aload_n C.1 C.2.1 dX2_countRows_35 rfl (lv_at hl 0 rfl) ?_
          refine r_getR C hm flX2_9 dX2_countRows_36 hh (fun x7 _ hh => ?_)
          refine r_cV C X hm hs mlX2_47 mvX2_47 hh (vv := fun r => some (.int r)) (hp := fun r => r5.2) (fun b r hg => c_X7_cellOf l G r5.2 b _ r hg) rfl rfl (Nat.le_of_ble_eq_true rfl) (Nat.le_of_ble_eq_true rfl) (Nat.le_of_ble_eq_true rfl) hl.1 dX2_countRows_39 (fun b9 r8 H locs hgr8 hh hm hs => ?_)
          refine W.eq (g2 := F0 m 42 ls [.int r8]) rfl ?_
          refine lv_istore (i := 4) (lv' := [(4, .int r8), (0, va_rf (some a0)), (1, va_rf v1), (2, va_rf v2), (3, .int v3)]) C.1 C.2.1 dX2_countRows_42 hl (by decide) rfl (fun ls hl => ?_)
          refine lv_iload C.1 C.2.1 dX2_countRows_44 (lv_at hl 0 rfl) ?_
          refine lv_if_lt (tgt := 64) C.1 C.2.1 dX2_countRows_46 (by decide) (fun c14 => ?_) (fun c14 => ?_)
          · rw [if_pos c14] at hh
            exact B64 _ ih _ _ _ _ _ _ _ _  hm hs (lv_sub hl [1, 2, 3, 4] rfl) hh
          · rw [if_neg c14] at hh
            refine lv_iload C.1 C.2.1 dX2_countRows_49 (lv_at hl 0 rfl) ?_
            refine r_aload_n C.1 C.2.1 dX2_countRows_51 rfl (lv_at hl 3 rfl) ?_
            refine r_len C hm dX2_countRows_52 (kd := 20) (by decide) hh (fun x10 _ hh => ?_)
            refine lv_icmp_ge (tgt := 64) C.1 C.2.1 dX2_countRows_53 (by decide) (fun c13 => ?_) (fun c13 => ?_)
            · rw [if_pos c13] at hh
              exact B64 _ ih _ _ _ _ _ _ _ _  hm hs (lv_sub hl [1, 2, 3, 4] rfl) hh
            · rw [if_neg c13] at hh
              refine r_aload_n C.1 C.2.1 dX2_countRows_56 rfl (lv_at hl 3 rfl) ?_
              refine lv_iload C.1 C.2.1 dX2_countRows_57 (lv_at hl 0 rfl) ?_
              refine lv_dup2_11 C.1 C.2.1 dX2_countRows_59 rfl (va_cat _) ?_
              refine r_ald C hm dX2_countRows_60 hh (fun x11 _ hh => ?_)
              refine lv_iconst (v := 1) C.1 C.2.1 dX2_countRows_61 (by decide) ?_
              refine lv_iadd C.1 C.2.1 dX2_countRows_62 ?_
              refine r_ast C hm hs dX2_countRows_63 hh (fun h12 H locs _ hh hm hs => ?_)
              exact B64 _ ih _ _ _ _ _ _ _ _  hm hs (lv_sub hl [1, 2, 3, 4] rfl) hh
  unfold mX2_countRows at hh
  refine r_aload_n C.1 C.2.1 dX2_countRows_0 rfl (lv_at hl 2 rfl) ?_
  refine lv_iconst (v := 0) C.1 C.2.1 dX2_countRows_1 (by decide) ?_
  refine r_cS C X hm hs mlX2_58 msX2_58 hh (vv := fun r => none) (hp := fun r => r) (fun r hg => c_J7_fill_53178 l G h _ _ r hg) rfl rfl (Nat.le_of_ble_eq_true rfl) (Nat.le_of_ble_eq_true rfl) (Nat.le_of_ble_eq_true rfl) hl.1 dX2_countRows_2 (fun r17 H locs hgr17 hh hm hs => ?_)
  refine W.eq (g2 := F0 m 5 ls []) rfl ?_
  refine lv_iconst (v := 0) C.1 C.2.1 dX2_countRows_5 (by decide) ?_
  refine lv_istore_n (i := 3) (lv' := [(3, .int 0), (0, va_rf (some a0)), (1, va_rf a1), (2, va_rf a2)]) C.1 C.2.1 dX2_countRows_6 rfl hl (by decide) (by simp [va_cat, vc_i, vc_l, vc_r]) (fun ls hl => ?_)
  exact B7 FUEL _ _ _ _ _ _ _ _  hm hs (lv_sub hl [1, 2, 3, 0] rfl) hh
def mX2_rowIn_b59 (k6 : MHp → Nat → Option Nat → Int32 → Int32 → Int32 → Int32 → Option (Int32 × MHp)) (h : MHp) (a0 : Nat) (v1 : Option Nat) (v2 : Int32) (v3 : Int32) (v4 : Int32) (v5 : Int32) : Option (Int32 × MHp) := k6 h a0 v1 v2 v3 v4 (v5 + 1)
def mX2_rowIn_l6 : Nat → MHp → Nat → Option Nat → Int32 → Int32 → Int32 → Int32 → Option (Int32 × MHp)
  | 0, _, _, _, _, _, _, _ => none
  | n + 1, h, a0, v1, v2, v3, v4, v5 => (gR 3 0 h (some a0)).bind fun x1 => (gI 10 6 h x1).bind fun x2 => (if x2 ≤ v5 then some ((-1), h) else (gR 3 0 h (some a0)).bind fun x3 => (gI 10 7 h x3).bind fun x4 => (rcv 3 h (some a0)).bind fun b6 => (mX2_looksAt h b6 v5 x4 0).bind fun r5 => (if r5.1 = 0 then mX2_rowIn_b59 (mX2_rowIn_l6 n) r5.2 a0 v1 v2 v3 v4 v5 else (gR 3 1 r5.2 (some a0)).bind fun x7 => (rcv 8 r5.2 v1).bind fun b9 => (mX7_cellOf r5.2 b9 x7).bind fun r8 => (if r8 = v2 then (if v4 = v3 then some (v5, r5.2) else mX2_rowIn_b59 (mX2_rowIn_l6 n) r5.2 a0 v1 v2 v3 (v4 + 1) v5) else mX2_rowIn_b59 (mX2_rowIn_l6 n) r5.2 a0 v1 v2 v3 v4 v5)))
def mX2_rowIn (h : MHp) (a0 : Nat) (a1 : Option Nat) (a2 : Int32) (a3 : Int32) : Option (Int32 × MHp) := mX2_rowIn_l6 FUEL h a0 a1 a2 a3 0 0
set_option maxRecDepth 100000 in
set_option maxHeartbeats 4000000 in
theorem c_X2_rowIn (l : Launch) (G : Env0) (h : MHp) (a0 : Nat) (a1 : Option Nat) (a2 : Int32) (a3 : Int32) (res : Int32 × MHp) (hh : mX2_rowIn h a0 a1 a2 a3 = some res) : MG l yX2_rowIn cX2_rowIn 6 (some .int) 4 96 0 0 G h [.ref a0, va_rf a1, .int a2, .int a3] (some (.int res.1)) (res.2) := by
  refine MG_of (own := RX2) (plainFor_of_name (by decide)) rfl (by simp [lg_sl, va_cat, vc_i, vc_l, vc_r]) ?_
  intro p e s m args below meth c Q ls hQ C X hin hm hs hl hr
  have hl : lv_has ls 6 [(0, .ref a0), (1, va_rf a1), (2, .int a2), (3, .int a3)] := by simpa [lv_args, va_cat, vc_i, vc_l, vc_r] using hl
  have hl : lv_has ls 6 [(0, va_rf (some a0)), (1, va_rf a1), (2, .int a2), (3, .int a3)] := hl
  have B59 : ∀ (k6 : MHp → Nat → Option Nat → Int32 → Int32 → Int32 → Int32 → Option (Int32 × MHp)), (∀ (h : MHp) (H : Heap) (locs : List Loc) (ls : Array Slot) (a0 : Nat) (v1 : Option Nat) (v2 : Int32) (v3 : Int32) (v4 : Int32) (v5 : Int32) , mHp (gD G) (gC G) (gB G) h H → va_S (fun q => gB G ≤ q) s.heap H locs → lv_has ls 6 [(0, va_rf (some a0)), (1, va_rf v1), (2, .int v2), (3, .int v3), (4, .int v4), (5, .int v5)] → k6 h a0 v1 v2 v3 v4 v5 = some res → W p l e ({ frames := 4, cells := 0, slots := 0, locals := 96 }) s m args below meth c H locs 0 0 Q (F0 m 6 ls [])) → ∀ (h : MHp) (H : Heap) (locs : List Loc) (ls : Array Slot) (a0 : Nat) (v1 : Option Nat) (v2 : Int32) (v3 : Int32) (v4 : Int32) (v5 : Int32) , mHp (gD G) (gC G) (gB G) h H → va_S (fun q => gB G ≤ q) s.heap H locs → lv_has ls 6 [(0, va_rf (some a0)), (1, va_rf v1), (2, .int v2), (3, .int v3), (4, .int v4), (5, .int v5)] → mX2_rowIn_b59 k6 h a0 v1 v2 v3 v4 v5 = some res → W p l e ({ frames := 4, cells := 0, slots := 0, locals := 96 }) s m args below meth c H locs 0 0 Q (F0 m 59 ls []) := by
    intro k6 hk6 h H locs ls a0 v1 v2 v3 v4 v5 hm hs hl hh
    unfold mX2_rowIn_b59 at hh
    refine lv_iinc (v := (v5 + 1)) (lv' := [(5, .int (v5 + 1)), (0, va_rf (some a0)), (1, va_rf v1), (2, .int v2), (3, .int v3), (4, .int v4)]) C.1 C.2.1 dX2_rowIn_59 hl (k := 5) rfl rfl (by decide) rfl (fun ls hl => ?_)
    refine lv_goto (tgt := 6) C.1 C.2.1 dX2_rowIn_62 (by decide) ?_
    exact hk6 _ _ _ _ _ _ _ _ _ _  hm hs (lv_sub hl [1, 2, 3, 4, 5, 0] rfl) hh
  have B6 : ∀ n : Nat, ∀ (h : MHp) (H : Heap) (locs : List Loc) (ls : Array Slot) (a0 : Nat) (v1 : Option Nat) (v2 : Int32) (v3 : Int32) (v4 : Int32) (v5 : Int32) , mHp (gD G) (gC G) (gB G) h H → va_S (fun q => gB G ≤ q) s.heap H locs → lv_has ls 6 [(0, va_rf (some a0)), (1, va_rf v1), (2, .int v2), (3, .int v3), (4, .int v4), (5, .int v5)] → mX2_rowIn_l6 n h a0 v1 v2 v3 v4 v5 = some res → W p l e ({ frames := 4, cells := 0, slots := 0, locals := 96 }) s m args below meth c H locs 0 0 Q (F0 m 6 ls []) := by
    intro n
    induction n with
    | zero => intro h H locs ls a0 v1 v2 v3 v4 v5 hm hs hl hh; cases hh
    | succ n ih =>
      intro h H locs ls a0 v1 v2 v3 v4 v5 hm hs hl hh
      unfold mX2_rowIn_l6 at hh
      refine lv_iload C.1 C.2.1 dX2_rowIn_6 (lv_at hl 5 rfl) ?_
      refine r_aload_n C.1 C.2.1 dX2_rowIn_8 rfl (lv_at hl 0 rfl) ?_
      refine r_getR C hm flX2_15 dX2_rowIn_9 hh (fun x1 _ hh => ?_)
      refine r_getI C hm flX2_39 dX2_rowIn_12 hh (fun x2 _ hh => ?_)
      refine lv_icmp_ge (tgt := 65) C.1 C.2.1 dX2_rowIn_15 (by decide) (fun c13 => ?_) (fun c13 => ?_)
      · rw [if_pos c13] at hh
        refine lv_iconst (v := (-1)) C.1 C.2.1 dX2_rowIn_65 (by decide) ?_
        exact r_iretW hQ C hr hm hs hh dX2_rowIn_66
      · rw [if_neg c13] at hh
        refine r_aload_n C.1 C.2.1 dX2_rowIn_18 rfl (lv_at hl 0 rfl) ?_
        refine lv_iload C.1 C.2.1 dX2_rowIn_19 (lv_at hl 5 rfl) ?_
        refine r_aload_n C.1 C.2.1 dX2_rowIn_21 rfl (lv_at hl 0 rfl) ?_
        refine r_getR C hm flX2_15 dX2_rowIn_22 hh (fun x3 _ hh => ?_)
        refine r_getI C hm flX2_64 dX2_rowIn_25 hh (fun x4 _ hh => ?_)
        refine lv_iconst (v := 0) C.1 C.2.1 dX2_rowIn_28 (by decide) ?_
        refine r_cV C X hm hs mlX2_43 mvX2_43 hh (vv := fun r => some (.int r.1)) (hp := fun r => r.2) (fun b r hg => c_X2_looksAt l G h b _ _ _ r hg) rfl rfl (Nat.le_of_ble_eq_true rfl) (Nat.le_of_ble_eq_true rfl) (Nat.le_of_ble_eq_true rfl) hl.1 dX2_rowIn_29 (fun b6 r5 H locs hgr5 hh hm hs => ?_)
        refine W.eq (g2 := F0 m 32 ls [.int r5.1]) rfl ?_
        refine lv_if_eq (tgt := 59) C.1 C.2.1 dX2_rowIn_32 (by decide) (fun c12 => ?_) (fun c12 => ?_)
        · rw [if_pos c12] at hh
          exact B59 _ ih _ _ _ _ _ _ _ _ _ _  hm hs (lv_sub hl [0, 1, 2, 3, 4, 5] rfl) hh
        · rw [if_neg c12] at hh
          refine r_aload_n C.1 C.2.1 dX2_rowIn_35 rfl (lv_at hl 1 rfl) ?_
          refine r_aload_n C.1 C.2.1 dX2_rowIn_36 rfl (lv_at hl 0 rfl) ?_
          refine r_getR C hm flX2_9 dX2_rowIn_37 hh (fun x7 _ hh => ?_)
          refine r_cV C X hm hs mlX2_47 mvX2_47 hh (vv := fun r => some (.int r)) (hp := fun r => r5.2) (fun b r hg => c_X7_cellOf l G r5.2 b _ r hg) rfl rfl (Nat.le_of_ble_eq_true rfl) (Nat.le_of_ble_eq_true rfl) (Nat.le_of_ble_eq_true rfl) hl.1 dX2_rowIn_40 (fun b9 r8 H locs hgr8 hh hm hs => ?_)
          refine W.eq (g2 := F0 m 43 ls [.int r8]) rfl ?_
          refine lv_iload_n C.1 C.2.1 dX2_rowIn_43 rfl (lv_at hl 2 rfl) ?_
          refine lv_icmp_ne (tgt := 59) C.1 C.2.1 dX2_rowIn_44 (by decide) (fun c11 => ?_) (fun c11 => ?_)
          · rw [if_neg c11] at hh
            exact B59 _ ih _ _ _ _ _ _ _ _ _ _  hm hs (lv_sub hl [0, 1, 2, 3, 4, 5] rfl) hh
          · rw [if_pos c11] at hh
            refine lv_iload C.1 C.2.1 dX2_rowIn_47 (lv_at hl 4 rfl) ?_
            refine lv_iload_n C.1 C.2.1 dX2_rowIn_49 rfl (lv_at hl 3 rfl) ?_
            refine lv_icmp_ne (tgt := 56) C.1 C.2.1 dX2_rowIn_50 (by decide) (fun c10 => ?_) (fun c10 => ?_)
            · rw [if_neg c10] at hh
              refine lv_iinc (v := (v4 + 1)) (lv' := [(4, .int (v4 + 1)), (0, va_rf (some a0)), (1, va_rf v1), (2, .int v2), (3, .int v3), (5, .int v5)]) C.1 C.2.1 dX2_rowIn_56 hl (k := 4) rfl rfl (by decide) rfl (fun ls hl => ?_)
              exact B59 _ ih _ _ _ _ _ _ _ _ _ _  hm hs (lv_sub hl [1, 2, 3, 4, 0, 5] rfl) hh
            · rw [if_pos c10] at hh
              refine lv_iload C.1 C.2.1 dX2_rowIn_53 (lv_at hl 5 rfl) ?_
              exact r_iretW hQ C hr hm hs hh dX2_rowIn_55
  unfold mX2_rowIn at hh
  refine lv_iconst (v := 0) C.1 C.2.1 dX2_rowIn_0 (by decide) ?_
  refine lv_istore (i := 4) (lv' := [(4, .int 0), (0, va_rf (some a0)), (1, va_rf a1), (2, .int a2), (3, .int a3)]) C.1 C.2.1 dX2_rowIn_1 hl (by decide) rfl (fun ls hl => ?_)
  refine lv_iconst (v := 0) C.1 C.2.1 dX2_rowIn_3 (by decide) ?_
  refine lv_istore (i := 5) (lv' := [(5, .int 0), (4, .int 0), (0, va_rf (some a0)), (1, va_rf a1), (2, .int a2), (3, .int a3)]) C.1 C.2.1 dX2_rowIn_4 hl (by decide) rfl (fun ls hl => ?_)
  exact B6 FUEL _ _ _ _ _ _ _ _ _ _  hm hs (lv_sub hl [2, 3, 4, 5, 1, 0] rfl) hh

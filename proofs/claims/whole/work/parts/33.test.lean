def mX10_init (h : MHp) (a0 : Nat) : Option (MHp) := (some (nA h 20 12)).bind fun h1 => (pR 11 0 h1 (some a0) (some (hS h))).bind fun h2 => (some (nA h2 20 12)).bind fun h3 => (pR 11 1 h3 (some a0) (some (hS h2))).bind fun h4 => (some (nA h4 20 12)).bind fun h5 => (pR 11 2 h5 (some a0) (some (hS h4))).bind fun h6 => some h6
set_option maxRecDepth 100000 in
set_option maxHeartbeats 4000000 in
theorem c_X10_init (l : Launch) (G : Env0) (h : MHp) (a0 : Nat) (res : MHp) (hh : mX10_init h a0 = some res) : MG l yX10_init cX10_init 1 none 1 12 3 36 G h [.ref a0] (none) (res) := by
  refine MG_of (own := RX10) (plainFor_of_name (by decide)) rfl (Nat.le_of_ble_eq_true rfl) ?_
  intro p e s m args below meth c Q ls hQ C X hin hm hs hl hr
  have hl : lv_has ls 1 [(0, va_rf (some a0))] := hl
  unfold mX10_init at hh
  refine r_aload_n C.1 C.2.1 dX10_init_0 rfl (lv_at hl 0 rfl) ?_
  refine r_objInit C (in_tbl q_51 rfl) (in_tbl q_37 rfl) (in_tbl q_38 rfl) hl.1 dX10_init_1 (Nat.le_of_ble_eq_true rfl) (Nat.le_of_ble_eq_true rfl) ?_
  refine r_aload_n C.1 C.2.1 dX10_init_4 rfl (lv_at hl 0 rfl) ?_
  refine lv_bipush (v := 12) C.1 C.2.1 dX10_init_5 (by decide) ?_
  refine r_newaG C hm hs (kd := 20) (w := 4) (by decide) aw20 dX10_init_7 (N := 12) (by decide) (by decide) (by decide) hh (Nat.le_of_ble_eq_true rfl) (Nat.le_of_ble_eq_true rfl) (fun h1 H hh hm hs => ?_)
  refine r_putR C hm hs flX10_9 (Or.inr ⟨ffX10_9, hin rfl⟩) dX10_init_9 hh (fun h2 H locs _ hh hm hs => ?_)
  refine r_aload_n C.1 C.2.1 dX10_init_12 rfl (lv_at hl 0 rfl) ?_
  refine lv_bipush (v := 12) C.1 C.2.1 dX10_init_13 (by decide) ?_
  refine r_newaG C hm hs (kd := 20) (w := 4) (by decide) aw20 dX10_init_15 (N := 12) (by decide) (by decide) (by decide) hh (Nat.le_of_ble_eq_true rfl) (Nat.le_of_ble_eq_true rfl) (fun h3 H hh hm hs => ?_)
  refine r_putR C hm hs flX10_15 (Or.inr ⟨ffX10_15, hin rfl⟩) dX10_init_17 hh (fun h4 H locs _ hh hm hs => ?_)
  refine r_aload_n C.1 C.2.1 dX10_init_20 rfl (lv_at hl 0 rfl) ?_
  refine lv_bipush (v := 12) C.1 C.2.1 dX10_init_21 (by decide) ?_
  refine r_newaG C hm hs (kd := 20) (w := 4) (by decide) aw20 dX10_init_23 (N := 12) (by decide) (by decide) (by decide) hh (Nat.le_of_ble_eq_true rfl) (Nat.le_of_ble_eq_true rfl) (fun h5 H hh hm hs => ?_)
  refine r_putR C hm hs flX10_18 (Or.inr ⟨ffX10_18, hin rfl⟩) dX10_init_25 hh (fun h6 H locs _ hh hm hs => ?_)
  refine W.widen (k := 3) (n := 36) (by omega) (by omega) ?_
  exact r_vretW hQ C hr hm hs hh dX10_init_28
def mX10_clear (h : MHp) (a0 : Nat) : Option (MHp) := (pI 11 3 h (some a0) 0).bind fun h1 => (pI 11 4 h1 (some a0) 0).bind fun h2 => some h2
set_option maxRecDepth 100000 in
set_option maxHeartbeats 4000000 in
theorem c_X10_clear (l : Launch) (G : Env0) (h : MHp) (a0 : Nat) (res : MHp) (hh : mX10_clear h a0 = some res) : MG l yX10_clear cX10_clear 1 none 0 0 0 0 G h [.ref a0] (none) (res) := by
  refine MG_of (own := RX10) (plainFor_of_name (by decide)) rfl (Nat.le_of_ble_eq_true rfl) ?_
  intro p e s m args below meth c Q ls hQ C X hin hm hs hl hr
  have hl : lv_has ls 1 [(0, va_rf (some a0))] := hl
  unfold mX10_clear at hh
  refine r_aload_n C.1 C.2.1 dX10_clear_0 rfl (lv_at hl 0 rfl) ?_
  refine lv_iconst (v := 0) C.1 C.2.1 dX10_clear_1 (by decide) ?_
  refine r_putI C hm hs flX10_21 (Or.inl fm_11_3) dX10_clear_2 hh (fun h1 H locs _ hh hm hs => ?_)
  refine r_aload_n C.1 C.2.1 dX10_clear_5 rfl (lv_at hl 0 rfl) ?_
  refine lv_iconst (v := 0) C.1 C.2.1 dX10_clear_6 (by decide) ?_
  refine r_putI C hm hs flX10_25 (Or.inl fm_11_4) dX10_clear_7 hh (fun h2 H locs _ hh hm hs => ?_)
  exact r_vretW hQ C hr hm hs hh dX10_clear_10
def mX10_isFull (h : MHp) (a0 : Nat) : Option (Int32) := (gI 11 3 h (some a0)).bind fun x1 => (if x1 < 12 then some 0 else some 1)
set_option maxRecDepth 100000 in
set_option maxHeartbeats 4000000 in
theorem c_X10_isFull (l : Launch) (G : Env0) (h : MHp) (a0 : Nat) (res : Int32) (hh : mX10_isFull h a0 = some res) : MG l yX10_isFull cX10_isFull 1 (some .boolean) 0 0 0 0 G h [.ref a0] (some (.int res)) (h) := by
  refine MG_of (own := RX10) (plainFor_of_name (by decide)) rfl (Nat.le_of_ble_eq_true rfl) ?_
  intro p e s m args below meth c Q ls hQ C X hin hm hs hl hr
  have hl : lv_has ls 1 [(0, va_rf (some a0))] := hl
  unfold mX10_isFull at hh
  refine r_aload_n C.1 C.2.1 dX10_isFull_0 rfl (lv_at hl 0 rfl) ?_
  refine r_getI C hm flX10_21 dX10_isFull_1 hh (fun x1 _ hh => ?_)
  refine lv_bipush (v := 12) C.1 C.2.1 dX10_isFull_4 (by decide) ?_
  refine lv_icmp_lt (tgt := 13) C.1 C.2.1 dX10_isFull_6 (by decide) (fun c2 => ?_) (fun c2 => ?_)
  · rw [if_pos c2] at hh
    refine lv_iconst (v := 0) C.1 C.2.1 dX10_isFull_13 (by decide) ?_
    exact r_bretP hQ C hr hm hs (by decide) hh dX10_isFull_14
  · rw [if_neg c2] at hh
    refine lv_iconst (v := 1) C.1 C.2.1 dX10_isFull_9 (by decide) ?_
    refine lv_goto (tgt := 14) C.1 C.2.1 dX10_isFull_10 (by decide) ?_
    exact r_bretP hQ C hr hm hs (by decide) hh dX10_isFull_14
def mX10_add_b69 (h : MHp) (t0 : Option Nat) (t1 : Int32) (t2 : Int32) (t3 : Int32) : Option (MHp) := (pI 11 4 h t0 (t1 ||| (t2 ||| t3))).bind fun h1 => some h1
def mX10_add (h : MHp) (a0 : Nat) (a1 : Int32) (a2 : Int32) (a3 : Int32) : Option (MHp) := (rcv 11 h (some a0)).bind fun b3 => (mX10_isFull h b3).bind fun r2 => (if r2 = 0 then (gR 11 0 h (some a0)).bind fun x4 => (gI 11 3 h (some a0)).bind fun x5 => (pAI 20 h x4 x5 a1).bind fun h6 => (gR 11 1 h6 (some a0)).bind fun x7 => (gI 11 3 h6 (some a0)).bind fun x8 => (pAI 20 h6 x7 x8 a2).bind fun h9 => (gR 11 2 h9 (some a0)).bind fun x10 => (gI 11 3 h9 (some a0)).bind fun x11 => (pAI 20 h9 x10 x11 a3).bind fun h12 => (gI 11 3 h12 (some a0)).bind fun x13 => (pI 11 3 h12 (some a0) (x13 + 1)).bind fun h14 => (gI 11 4 h14 (some a0)).bind fun x15 => (if 0 ≤ a3 then mX10_add_b69 h14 (some a0) x15 (1 <<< (a1 &&& 31)) 0 else mX10_add_b69 h14 (some a0) x15 (1 <<< (a1 &&& 31)) (1 <<< (((-1) - a3) &&& 31))) else some h)
set_option maxRecDepth 100000 in
set_option maxHeartbeats 4000000 in
theorem c_X10_add (l : Launch) (G : Env0) (h : MHp) (a0 : Nat) (a1 : Int32) (a2 : Int32) (a3 : Int32) (res : MHp) (hh : mX10_add h a0 a1 a2 a3 = some res) : MG l yX10_add cX10_add 4 none 1 20 0 0 G h [.ref a0, .int a1, .int a2, .int a3] (none) (res) := by
  refine MG_of (own := RX10) (plainFor_of_name (by decide)) rfl (Nat.le_of_ble_eq_true rfl) ?_
  intro p e s m args below meth c Q ls hQ C X hin hm hs hl hr
  have hl : lv_has ls 4 [(0, va_rf (some a0)), (1, .int a1), (2, .int a2), (3, .int a3)] := hl
  have B69 : ∀ (h : MHp) (H : Heap) (locs : List Loc) (ls : Array Slot) (t0 : Option Nat) (t1 : Int32) (t2 : Int32) (t3 : Int32) , mHp (gD G) (gC G) (gB G) h H → va_S (fun q => gB G ≤ q) s.heap H locs → lv_has ls 4 [] → mX10_add_b69 h t0 t1 t2 t3 = some res → W p l e ({ frames := 1, cells := 0, slots := 0, locals := 20 }) s m args below meth c H locs 0 0 Q (F0 m 69 ls [.int t3, .int t2, .int t1, va_rf t0]) := by
    intro h H locs ls t0 t1 t2 t3 hm hs hl hh
    unfold mX10_add_b69 at hh
    refine lv_ior C.1 C.2.1 dX10_add_69 ?_
    refine lv_ior C.1 C.2.1 dX10_add_70 ?_
    refine r_putI C hm hs flX10_25 (Or.inl fm_11_4) dX10_add_71 hh (fun h1 H locs _ hh hm hs => ?_)
    exact r_vretW hQ C hr hm hs hh dX10_add_74
  unfold mX10_add at hh
  refine r_aload_n C.1 C.2.1 dX10_add_0 rfl (lv_at hl 0 rfl) ?_
  refine r_cV C X hm hs mlX10_28 mvX10_28 hh (vv := fun r => some (.int r)) (hp := fun r => h) (fun b r hg => c_X10_isFull l G h b  r hg) rfl rfl (Nat.le_of_ble_eq_true rfl) (Nat.le_of_ble_eq_true rfl) (Nat.le_of_ble_eq_true rfl) hl.1 dX10_add_1 (fun b3 r2 H locs hgr2 hh hm hs => ?_)
  refine W.eq (g2 := F0 m 4 ls [.int r2]) rfl ?_
  refine lv_if_eq (tgt := 8) C.1 C.2.1 dX10_add_4 (by decide) (fun c17 => ?_) (fun c17 => ?_)
  · rw [if_pos c17] at hh
    refine r_aload_n C.1 C.2.1 dX10_add_8 rfl (lv_at hl 0 rfl) ?_
    refine r_getR C hm flX10_9 dX10_add_9 hh (fun x4 _ hh => ?_)
    refine r_aload_n C.1 C.2.1 dX10_add_12 rfl (lv_at hl 0 rfl) ?_
    refine r_getI C hm flX10_21 dX10_add_13 hh (fun x5 _ hh => ?_)
    refine lv_iload_n C.1 C.2.1 dX10_add_16 rfl (lv_at hl 1 rfl) ?_
    refine r_ast C hm hs dX10_add_17 hh (fun h6 H locs _ hh hm hs => ?_)
    refine r_aload_n C.1 C.2.1 dX10_add_18 rfl (lv_at hl 0 rfl) ?_
    refine r_getR C hm flX10_15 dX10_add_19 hh (fun x7 _ hh => ?_)
    refine r_aload_n C.1 C.2.1 dX10_add_22 rfl (lv_at hl 0 rfl) ?_
    refine r_getI C hm flX10_21 dX10_add_23 hh (fun x8 _ hh => ?_)
    refine lv_iload_n C.1 C.2.1 dX10_add_26 rfl (lv_at hl 2 rfl) ?_
    refine r_ast C hm hs dX10_add_27 hh (fun h9 H locs _ hh hm hs => ?_)
    refine r_aload_n C.1 C.2.1 dX10_add_28 rfl (lv_at hl 0 rfl) ?_
    refine r_getR C hm flX10_18 dX10_add_29 hh (fun x10 _ hh => ?_)
    refine r_aload_n C.1 C.2.1 dX10_add_32 rfl (lv_at hl 0 rfl) ?_
    refine r_getI C hm flX10_21 dX10_add_33 hh (fun x11 _ hh => ?_)
    refine lv_iload_n C.1 C.2.1 dX10_add_36 rfl (lv_at hl 3 rfl) ?_
    refine r_ast C hm hs dX10_add_37 hh (fun h12 H locs _ hh hm hs => ?_)
    refine r_aload_n C.1 C.2.1 dX10_add_38 rfl (lv_at hl 0 rfl) ?_
    refine lv_dup C.1 C.2.1 dX10_add_39 (va_cat _) ?_
    refine r_getI C hm flX10_21 dX10_add_40 hh (fun x13 _ hh => ?_)
    refine lv_iconst (v := 1) C.1 C.2.1 dX10_add_43 (by decide) ?_
    refine lv_iadd C.1 C.2.1 dX10_add_44 ?_
    refine r_putI C hm hs flX10_21 (Or.inl fm_11_3) dX10_add_45 hh (fun h14 H locs _ hh hm hs => ?_)
    refine r_aload_n C.1 C.2.1 dX10_add_48 rfl (lv_at hl 0 rfl) ?_
    refine lv_dup C.1 C.2.1 dX10_add_49 (va_cat _) ?_
    refine r_getI C hm flX10_25 dX10_add_50 hh (fun x15 _ hh => ?_)
    refine lv_iconst (v := 1) C.1 C.2.1 dX10_add_53 (by decide) ?_
    refine lv_iload_n C.1 C.2.1 dX10_add_54 rfl (lv_at hl 1 rfl) ?_
    refine lv_ishl C.1 C.2.1 dX10_add_55 ?_
    refine lv_iload_n C.1 C.2.1 dX10_add_56 rfl (lv_at hl 3 rfl) ?_
    refine lv_if_ge (tgt := 68) C.1 C.2.1 dX10_add_57 (by decide) (fun c16 => ?_) (fun c16 => ?_)
    · rw [if_pos c16] at hh
      refine lv_iconst (v := 0) C.1 C.2.1 dX10_add_68 (by decide) ?_
      exact B69 _ _ _ _ _ _ _ _  hm hs (lv_sub hl [] rfl) hh
    · rw [if_neg c16] at hh
      refine lv_iconst (v := 1) C.1 C.2.1 dX10_add_60 (by decide) ?_
      refine lv_iconst (v := (-1)) C.1 C.2.1 dX10_add_61 (by decide) ?_
      refine lv_iload_n C.1 C.2.1 dX10_add_62 rfl (lv_at hl 3 rfl) ?_
      refine lv_isub C.1 C.2.1 dX10_add_63 ?_
      refine lv_ishl C.1 C.2.1 dX10_add_64 ?_
      refine lv_goto (tgt := 69) C.1 C.2.1 dX10_add_65 (by decide) ?_
      exact B69 _ _ _ _ _ _ _ _  hm hs (lv_sub hl [] rfl) hh
  · rw [if_neg c17] at hh
    exact r_vretW hQ C hr hm hs hh dX10_add_7
def mX10_holds_b120 (k2 : Nat → Option Nat → Int32 → Option (Int32)) (h : MHp) (a0 : Nat) (v1 : Option Nat) (v2 : Int32) (v3 : Int32) (v4 : Int32) (t0 : Int32) : Option (Int32) := (if t0 = 0 then some 0 else (if v3 = (-1) then some 0 else (if v4 = (-1) then some 0 else k2 a0 v1 (v2 + 1))))
def mX10_holds_b57 (k2 : Nat → Option Nat → Int32 → Option (Int32)) (h : MHp) (a0 : Nat) (v1 : Option Nat) (v2 : Int32) (v3 : Int32) (t0 : Int32) : Option (Int32) := (gR 11 1 h (some a0)).bind fun x4 => (gAI 20 h x4 v2).bind fun x5 => (if x5 = 61 then (if v3 = t0 then mX10_holds_b120 k2 h a0 v1 v2 v3 t0 1 else mX10_holds_b120 k2 h a0 v1 v2 v3 t0 0) else (gR 11 1 h (some a0)).bind fun x6 => (gAI 20 h x6 v2).bind fun x7 => (if x7 = 60 then (if t0 ≤ v3 then mX10_holds_b120 k2 h a0 v1 v2 v3 t0 0 else mX10_holds_b120 k2 h a0 v1 v2 v3 t0 1) else (if v3 ≤ t0 then mX10_holds_b120 k2 h a0 v1 v2 v3 t0 0 else mX10_holds_b120 k2 h a0 v1 v2 v3 t0 1)))
def mX10_holds_l2 (h : MHp) : Nat → Nat → Option Nat → Int32 → Option (Int32)
  | 0, _, _, _ => none
  | n + 1, a0, v1, v2 => (gI 11 3 h (some a0)).bind fun x13 => (if x13 ≤ v2 then some 1 else (if 12 ≤ v2 then some 1 else (gR 11 0 h (some a0)).bind fun x14 => (gAI 20 h x14 v2).bind fun x15 => (mX11_valueIn h v1 x15).bind fun r16 => (gR 11 2 h (some a0)).bind fun x17 => (gAI 20 h x17 v2).bind fun x18 => (if x18 < 0 then (gR 11 2 h (some a0)).bind fun x19 => (gAI 20 h x19 v2).bind fun x20 => (mX11_valueIn h v1 ((-1) - x20)).bind fun r21 => mX10_holds_b57 (mX10_holds_l2 h n) h a0 v1 v2 r16 r21 else (gR 11 2 h (some a0)).bind fun x22 => (gAI 20 h x22 v2).bind fun x23 => mX10_holds_b57 (mX10_holds_l2 h n) h a0 v1 v2 r16 x23)))
def mX10_holds (h : MHp) (a0 : Nat) (a1 : Option Nat) : Option (Int32) := mX10_holds_l2 h FUEL a0 a1 0
set_option maxRecDepth 100000 in
set_option maxHeartbeats 4000000 in
theorem c_X10_holds (l : Launch) (G : Env0) (h : MHp) (a0 : Nat) (a1 : Option Nat) (res : Int32) (hh : mX10_holds h a0 a1 = some res) : MG l yX10_holds cX10_holds 6 (some .boolean) 1 21 0 0 G h [.ref a0, va_rf a1] (some (.int res)) (h) := by
  refine MG_of (own := RX10) (plainFor_of_name (by decide)) rfl (by simp [lg_sl, va_cat, vc_i, vc_l, vc_r]) ?_
  intro p e s m args below meth c Q ls hQ C X hin hm hs hl hr
  have hl : lv_has ls 6 [(0, .ref a0), (1, va_rf a1)] := by simpa [lv_args, va_cat, vc_i, vc_l, vc_r] using hl
  have hl : lv_has ls 6 [(0, va_rf (some a0)), (1, va_rf a1)] := hl
  have B120 : ∀ (k2 : Nat → Option Nat → Int32 → Option (Int32)), (∀ (H : Heap) (locs : List Loc) (ls : Array Slot) (a0 : Nat) (v1 : Option Nat) (v2 : Int32) , mHp (gD G) (gC G) (gB G) h H → va_S (fun q => gB G ≤ q) s.heap H locs → lv_has ls 6 [(0, va_rf (some a0)), (1, va_rf v1), (2, .int v2)] → k2 a0 v1 v2 = some res → W p l e ({ frames := 1, cells := 0, slots := 0, locals := 21 }) s m args below meth c H locs 0 0 Q (F0 m 2 ls [])) → ∀ (H : Heap) (locs : List Loc) (ls : Array Slot) (a0 : Nat) (v1 : Option Nat) (v2 : Int32) (v3 : Int32) (v4 : Int32) (t0 : Int32) , mHp (gD G) (gC G) (gB G) h H → va_S (fun q => gB G ≤ q) s.heap H locs → lv_has ls 6 [(0, va_rf (some a0)), (1, va_rf v1), (2, .int v2), (3, .int v3), (4, .int v4)] → mX10_holds_b120 k2 h a0 v1 v2 v3 v4 t0 = some res → W p l e ({ frames := 1, cells := 0, slots := 0, locals := 21 }) s m args below meth c H locs 0 0 Q (F0 m 120 ls [.int t0]) := by
    intro k2 hk2 H locs ls a0 v1 v2 v3 v4 t0 hm hs hl hh
    unfold mX10_holds_b120 at hh
    refine lv_istore (i := 5) (lv' := [(5, .int t0), (0, va_rf (some a0)), (1, va_rf v1), (2, .int v2), (3, .int v3), (4, .int v4)]) C.1 C.2.1 dX10_holds_120 hl (by decide) rfl (fun ls hl => ?_)
    refine lv_iload C.1 C.2.1 dX10_holds_122 (lv_at hl 0 rfl) ?_
    refine lv_if_eq (tgt := 138) C.1 C.2.1 dX10_holds_124 (by decide) (fun c3 => ?_) (fun c3 => ?_)
    · rw [if_pos c3] at hh
      refine lv_iconst (v := 0) C.1 C.2.1 dX10_holds_138 (by decide) ?_
      exact r_bretP hQ C hr hm hs (by decide) hh dX10_holds_139
    · rw [if_neg c3] at hh
      refine lv_iload_n C.1 C.2.1 dX10_holds_127 rfl (lv_at hl 4 rfl) ?_
      refine lv_iconst (v := (-1)) C.1 C.2.1 dX10_holds_128 (by decide) ?_
      refine lv_icmp_eq (tgt := 138) C.1 C.2.1 dX10_holds_129 (by decide) (fun c2 => ?_) (fun c2 => ?_)
      · rw [if_pos c2] at hh
        refine lv_iconst (v := 0) C.1 C.2.1 dX10_holds_138 (by decide) ?_
        exact r_bretP hQ C hr hm hs (by decide) hh dX10_holds_139
      · rw [if_neg c2] at hh
        refine lv_iload C.1 C.2.1 dX10_holds_132 (lv_at hl 5 rfl) ?_
        refine lv_iconst (v := (-1)) C.1 C.2.1 dX10_holds_134 (by decide) ?_
        refine lv_icmp_ne (tgt := 140) C.1 C.2.1 dX10_holds_135 (by decide) (fun c1 => ?_) (fun c1 => ?_)
        · rw [if_neg c1] at hh
          refine lv_iinc (v := (v2 + 1)) (lv' := [(2, .int (v2 + 1)), (5, .int t0), (0, va_rf (some a0)), (1, va_rf v1), (3, .int v3), (4, .int v4)]) C.1 C.2.1 dX10_holds_140 hl (k := 3) rfl rfl (by decide) (by simp [va_cat, vc_i, vc_l, vc_r]) (fun ls hl => ?_)
          refine lv_goto (tgt := 2) C.1 C.2.1 dX10_holds_143 (by decide) ?_
          exact hk2 _ _ _ _ _ _  hm hs (lv_sub hl [2, 3, 0] rfl) hh
        · rw [if_pos c1] at hh
          refine lv_iconst (v := 0) C.1 C.2.1 dX10_holds_138 (by decide) ?_
          exact r_bretP hQ C hr hm hs (by decide) hh dX10_holds_139
  have B57 : ∀ (k2 : Nat → Option Nat → Int32 → Option (Int32)), (∀ (H : Heap) (locs : List Loc) (ls : Array Slot) (a0 : Nat) (v1 : Option Nat) (v2 : Int32) , mHp (gD G) (gC G) (gB G) h H → va_S (fun q => gB G ≤ q) s.heap H locs → lv_has ls 6 [(0, va_rf (some a0)), (1, va_rf v1), (2, .int v2)] → k2 a0 v1 v2 = some res → W p l e ({ frames := 1, cells := 0, slots := 0, locals := 21 }) s m args below meth c H locs 0 0 Q (F0 m 2 ls [])) → ∀ (H : Heap) (locs : List Loc) (ls : Array Slot) (a0 : Nat) (v1 : Option Nat) (v2 : Int32) (v3 : Int32) (t0 : Int32) , mHp (gD G) (gC G) (gB G) h H → va_S (fun q => gB G ≤ q) s.heap H locs → lv_has ls 6 [(0, va_rf (some a0)), (1, va_rf v1), (2, .int v2), (3, .int v3)] → mX10_holds_b57 k2 h a0 v1 v2 v3 t0 = some res → W p l e ({ frames := 1, cells := 0, slots := 0, locals := 21 }) s m args below meth c H locs 0 0 Q (F0 m 57 ls [.int t0]) := by
    intro k2 hk2 H locs ls a0 v1 v2 v3 t0 hm hs hl hh
    unfold mX10_holds_b57 at hh
    refine lv_istore (i := 4) (lv' := [(4, .int t0), (0, va_rf (some a0)), (1, va_rf v1), (2, .int v2), (3, .int v3)]) C.1 C.2.1 dX10_holds_57 hl (by decide) rfl (fun ls hl => ?_)
    refine r_aload_n C.1 C.2.1 dX10_holds_59 rfl (lv_at hl 1 rfl) ?_
    refine r_getR C hm flX10_15 dX10_holds_60 hh (fun x4 _ hh => ?_)
    refine lv_iload_n C.1 C.2.1 dX10_holds_63 rfl (lv_at hl 3 rfl) ?_
    refine r_ald C hm dX10_holds_64 hh (fun x5 _ hh => ?_)
    refine lv_bipush (v := 61) C.1 C.2.1 dX10_holds_65 (by decide) ?_
    refine lv_icmp_ne (tgt := 84) C.1 C.2.1 dX10_holds_67 (by decide) (fun c12 => ?_) (fun c12 => ?_)
    · rw [if_neg c12] at hh
      refine r_aload_n C.1 C.2.1 dX10_holds_84 rfl (lv_at hl 1 rfl) ?_
      refine r_getR C hm flX10_15 dX10_holds_85 hh (fun x6 _ hh => ?_)
      refine lv_iload_n C.1 C.2.1 dX10_holds_88 rfl (lv_at hl 3 rfl) ?_
      refine r_ald C hm dX10_holds_89 hh (fun x7 _ hh => ?_)
      refine lv_bipush (v := 60) C.1 C.2.1 dX10_holds_90 (by decide) ?_
      refine lv_icmp_ne (tgt := 109) C.1 C.2.1 dX10_holds_92 (by decide) (fun c10 => ?_) (fun c10 => ?_)
      · rw [if_neg c10] at hh
        refine lv_iload_n C.1 C.2.1 dX10_holds_109 rfl (lv_at hl 4 rfl) ?_
        refine lv_iload C.1 C.2.1 dX10_holds_110 (lv_at hl 0 rfl) ?_
        refine lv_icmp_le (tgt := 119) C.1 C.2.1 dX10_holds_112 (by decide) (fun c8 => ?_) (fun c8 => ?_)
        · rw [if_pos c8] at hh
          refine lv_iconst (v := 0) C.1 C.2.1 dX10_holds_119 (by decide) ?_
          exact B120 _ hk2 _ _ _ _ _ _ _ _ _  hm hs (lv_sub hl [1, 2, 3, 4, 0] rfl) hh
        · rw [if_neg c8] at hh
          refine lv_iconst (v := 1) C.1 C.2.1 dX10_holds_115 (by decide) ?_
          refine lv_goto (tgt := 120) C.1 C.2.1 dX10_holds_116 (by decide) ?_
          exact B120 _ hk2 _ _ _ _ _ _ _ _ _  hm hs (lv_sub hl [1, 2, 3, 4, 0] rfl) hh
      · rw [if_pos c10] at hh
        refine lv_iload_n C.1 C.2.1 dX10_holds_95 rfl (lv_at hl 4 rfl) ?_
        refine lv_iload C.1 C.2.1 dX10_holds_96 (lv_at hl 0 rfl) ?_
        refine lv_icmp_ge (tgt := 105) C.1 C.2.1 dX10_holds_98 (by decide) (fun c9 => ?_) (fun c9 => ?_)
        · rw [if_pos c9] at hh
          refine lv_iconst (v := 0) C.1 C.2.1 dX10_holds_105 (by decide) ?_
          refine lv_goto (tgt := 120) C.1 C.2.1 dX10_holds_106 (by decide) ?_
          exact B120 _ hk2 _ _ _ _ _ _ _ _ _  hm hs (lv_sub hl [1, 2, 3, 4, 0] rfl) hh
        · rw [if_neg c9] at hh
          refine lv_iconst (v := 1) C.1 C.2.1 dX10_holds_101 (by decide) ?_
          refine lv_goto (tgt := 120) C.1 C.2.1 dX10_holds_102 (by decide) ?_
          exact B120 _ hk2 _ _ _ _ _ _ _ _ _  hm hs (lv_sub hl [1, 2, 3, 4, 0] rfl) hh
    · rw [if_pos c12] at hh
      refine lv_iload_n C.1 C.2.1 dX10_holds_70 rfl (lv_at hl 4 rfl) ?_
      refine lv_iload C.1 C.2.1 dX10_holds_71 (lv_at hl 0 rfl) ?_
      refine lv_icmp_ne (tgt := 80) C.1 C.2.1 dX10_holds_73 (by decide) (fun c11 => ?_) (fun c11 => ?_)
      · rw [if_neg c11] at hh
        refine lv_iconst (v := 0) C.1 C.2.1 dX10_holds_80 (by decide) ?_
        refine lv_goto (tgt := 120) C.1 C.2.1 dX10_holds_81 (by decide) ?_
        exact B120 _ hk2 _ _ _ _ _ _ _ _ _  hm hs (lv_sub hl [1, 2, 3, 4, 0] rfl) hh
      · rw [if_pos c11] at hh
        refine lv_iconst (v := 1) C.1 C.2.1 dX10_holds_76 (by decide) ?_
        refine lv_goto (tgt := 120) C.1 C.2.1 dX10_holds_77 (by decide) ?_
        exact B120 _ hk2 _ _ _ _ _ _ _ _ _  hm hs (lv_sub hl [1, 2, 3, 4, 0] rfl) hh
  have B2 : ∀ n : Nat, ∀ (H : Heap) (locs : List Loc) (ls : Array Slot) (a0 : Nat) (v1 : Option Nat) (v2 : Int32) , mHp (gD G) (gC G) (gB G) h H → va_S (fun q => gB G ≤ q) s.heap H locs → lv_has ls 6 [(0, va_rf (some a0)), (1, va_rf v1), (2, .int v2)] → mX10_holds_l2 h n a0 v1 v2 = some res → W p l e ({ frames := 1, cells := 0, slots := 0, locals := 21 }) s m args below meth c H locs 0 0 Q (F0 m 2 ls []) := by
    intro n
    induction n with
    | zero => intro H locs ls a0 v1 v2 hm hs hl hh; cases hh
    | succ n ih =>
      intro H locs ls a0 v1 v2 hm hs hl hh
      unfold mX10_holds_l2 at hh
      refine lv_iload_n C.1 C.2.1 dX10_holds_2 rfl (lv_at hl 2 rfl) ?_
      refine r_aload_n C.1 C.2.1 dX10_holds_3 rfl (lv_at hl 0 rfl) ?_
      refine r_getI C hm flX10_21 dX10_holds_4 hh (fun x13 _ hh => ?_)
      refine lv_icmp_ge (tgt := 146) C.1 C.2.1 dX10_holds_7 (by decide) (fun c26 => ?_) (fun c26 => ?_)
      · rw [if_pos c26] at hh
        refine lv_iconst (v := 1) C.1 C.2.1 dX10_holds_146 (by decide) ?_
        exact r_bretP hQ C hr hm hs (by decide) hh dX10_holds_147
      · rw [if_neg c26] at hh
        refine lv_iload_n C.1 C.2.1 dX10_holds_10 rfl (lv_at hl 2 rfl) ?_
        refine lv_bipush (v := 12) C.1 C.2.1 dX10_holds_11 (by decide) ?_
        refine lv_icmp_ge (tgt := 146) C.1 C.2.1 dX10_holds_13 (by decide) (fun c25 => ?_) (fun c25 => ?_)
        · rw [if_pos c25] at hh
          refine lv_iconst (v := 1) C.1 C.2.1 dX10_holds_146 (by decide) ?_
          exact r_bretP hQ C hr hm hs (by decide) hh dX10_holds_147
        · rw [if_neg c25] at hh
          refine r_aload_n C.1 C.2.1 dX10_holds_16 rfl (lv_at hl 1 rfl) ?_
          refine r_aload_n C.1 C.2.1 dX10_holds_17 rfl (lv_at hl 0 rfl) ?_
          refine r_getR C hm flX10_9 dX10_holds_18 hh (fun x14 _ hh => ?_)
          refine lv_iload_n C.1 C.2.1 dX10_holds_21 rfl (lv_at hl 2 rfl) ?_
          refine r_ald C hm dX10_holds_22 hh (fun x15 _ hh => ?_)
          refine r_cS C X hm hs mlX10_32 msX10_32 hh (vv := fun r => some (.int r)) (hp := fun r => h) (fun r hg => c_X11_valueIn l G h _ _ r hg) rfl rfl (Nat.le_of_ble_eq_true rfl) (Nat.le_of_ble_eq_true rfl) (Nat.le_of_ble_eq_true rfl) hl.1 dX10_holds_23 (fun r16 H locs hgr16 hh hm hs => ?_)
          refine W.eq (g2 := F0 m 26 ls [.int r16]) rfl ?_
          refine lv_istore_n (i := 3) (lv' := [(3, .int r16), (0, va_rf (some a0)), (1, va_rf v1), (2, .int v2)]) C.1 C.2.1 dX10_holds_26 rfl hl (by decide) rfl (fun ls hl => ?_)
          refine r_aload_n C.1 C.2.1 dX10_holds_27 rfl (lv_at hl 1 rfl) ?_
          refine r_getR C hm flX10_18 dX10_holds_28 hh (fun x17 _ hh => ?_)
          refine lv_iload_n C.1 C.2.1 dX10_holds_31 rfl (lv_at hl 3 rfl) ?_
          refine r_ald C hm dX10_holds_32 hh (fun x18 _ hh => ?_)
          refine lv_if_lt (tgt := 45) C.1 C.2.1 dX10_holds_33 (by decide) (fun c24 => ?_) (fun c24 => ?_)
          · rw [if_pos c24] at hh
            refine r_aload_n C.1 C.2.1 dX10_holds_45 rfl (lv_at hl 2 rfl) ?_
            refine lv_iconst (v := (-1)) C.1 C.2.1 dX10_holds_46 (by decide) ?_
            refine r_aload_n C.1 C.2.1 dX10_holds_47 rfl (lv_at hl 1 rfl) ?_
            refine r_getR C hm flX10_18 dX10_holds_48 hh (fun x19 _ hh => ?_)
            refine lv_iload_n C.1 C.2.1 dX10_holds_51 rfl (lv_at hl 3 rfl) ?_
            refine r_ald C hm dX10_holds_52 hh (fun x20 _ hh => ?_)
            refine lv_isub C.1 C.2.1 dX10_holds_53 ?_
            refine r_cS C X hm hs mlX10_32 msX10_32 hh (vv := fun r => some (.int r)) (hp := fun r => h) (fun r hg => c_X11_valueIn l G h _ _ r hg) rfl rfl (Nat.le_of_ble_eq_true rfl) (Nat.le_of_ble_eq_true rfl) (Nat.le_of_ble_eq_true rfl) hl.1 dX10_holds_54 (fun r21 H locs hgr21 hh hm hs => ?_)
            refine W.eq (g2 := F0 m 57 ls [.int r21]) rfl ?_
            exact B57 _ ih _ _ _ _ _ _ _ _  hm hs (lv_sub hl [1, 2, 3, 0] rfl) hh
          · rw [if_neg c24] at hh
            refine r_aload_n C.1 C.2.1 dX10_holds_36 rfl (lv_at hl 1 rfl) ?_
            refine r_getR C hm flX10_18 dX10_holds_37 hh (fun x22 _ hh => ?_)
            refine lv_iload_n C.1 C.2.1 dX10_holds_40 rfl (lv_at hl 3 rfl) ?_
            refine r_ald C hm dX10_holds_41 hh (fun x23 _ hh => ?_)
            refine lv_goto (tgt := 57) C.1 C.2.1 dX10_holds_42 (by decide) ?_
            exact B57 _ ih _ _ _ _ _ _ _ _  hm hs (lv_sub hl [1, 2, 3, 0] rfl) hh
  unfold mX10_holds at hh
  refine lv_iconst (v := 0) C.1 C.2.1 dX10_holds_0 (by decide) ?_
  refine lv_istore_n (i := 2) (lv' := [(2, .int 0), (0, va_rf (some a0)), (1, va_rf a1)]) C.1 C.2.1 dX10_holds_1 rfl hl (by decide) (by simp [va_cat, vc_i, vc_l, vc_r]) (fun ls hl => ?_)
  exact B2 FUEL _ _ _ _ _ _  hm hs (lv_sub hl [1, 2, 0] rfl) hh

def mX9_init (h : MHp) (a0 : Nat) (a1 : Option Nat) : Option (MHp) := (some (nA h 20 60)).bind fun h1 => (pR 10 0 h1 (some a0) (some (hS h))).bind fun h2 => (some (nA h2 20 60)).bind fun h3 => (pR 10 1 h3 (some a0) (some (hS h2))).bind fun h4 => (some (nA h4 20 60)).bind fun h5 => (pR 10 2 h5 (some a0) (some (hS h4))).bind fun h6 => (some (nA h6 20 60)).bind fun h7 => (pR 10 3 h7 (some a0) (some (hS h6))).bind fun h8 => (some (nA h8 20 60)).bind fun h9 => (pR 10 4 h9 (some a0) (some (hS h8))).bind fun h10 => (some (nA h10 20 360)).bind fun h11 => (pR 10 8 h11 (some a0) (some (hS h10))).bind fun h12 => (some (nA h12 20 360)).bind fun h13 => (pR 10 9 h13 (some a0) (some (hS h12))).bind fun h14 => (some (nA h14 20 1800)).bind fun h15 => (pR 10 10 h15 (some a0) (some (hS h14))).bind fun h16 => (some (nA h16 20 6)).bind fun h17 => (pR 10 11 h17 (some a0) (some (hS h16))).bind fun h18 => (pR 10 5 h18 (some a0) a1).bind fun h19 => some h19
set_option maxRecDepth 100000 in
set_option maxHeartbeats 4000000 in
theorem c_X9_init (l : Launch) (G : Env0) (h : MHp) (a0 : Nat) (a1 : Option Nat) (res : MHp) (hh : mX9_init h a0 a1 = some res) : MG l yX9_init cX9_init 2 none 1 12 9 2826 G h [.ref a0, va_rf a1] (none) (res) := by
  refine MG_of (own := RX9) (plainFor_of_name (by decide)) rfl (by simp [lg_sl, va_cat, vc_i, vc_l, vc_r]) ?_
  intro p e s m args below meth c Q ls hQ C X hin hm hs hl hr
  have hl : lv_has ls 2 [(0, .ref a0), (1, va_rf a1)] := by simpa [lv_args, va_cat, vc_i, vc_l, vc_r] using hl
  have hl : lv_has ls 2 [(0, va_rf (some a0)), (1, va_rf a1)] := hl
  unfold mX9_init at hh
  refine r_aload_n C.1 C.2.1 dX9_init_0 rfl (lv_at hl 0 rfl) ?_
  refine r_objInit C (in_tbl q_146 rfl) (in_tbl q_37 rfl) (in_tbl q_38 rfl) hl.1 dX9_init_1 (Nat.le_of_ble_eq_true rfl) (Nat.le_of_ble_eq_true rfl) ?_
  refine r_aload_n C.1 C.2.1 dX9_init_4 rfl (lv_at hl 0 rfl) ?_
  refine lv_bipush (v := 60) C.1 C.2.1 dX9_init_5 (by decide) ?_
  refine r_newaG C hm hs (kd := 20) (w := 4) (by decide) aw20 dX9_init_7 (N := 60) (by decide) (by decide) (by decide) hh (Nat.le_of_ble_eq_true rfl) (Nat.le_of_ble_eq_true rfl) (fun h1 H hh hm hs => ?_)
  refine r_putR C hm hs flX9_9 (Or.inr ⟨ffX9_9, hin rfl⟩) dX9_init_9 hh (fun h2 H locs _ hh hm hs => ?_)
  refine r_aload_n C.1 C.2.1 dX9_init_12 rfl (lv_at hl 0 rfl) ?_
  refine lv_bipush (v := 60) C.1 C.2.1 dX9_init_13 (by decide) ?_
  refine r_newaG C hm hs (kd := 20) (w := 4) (by decide) aw20 dX9_init_15 (N := 60) (by decide) (by decide) (by decide) hh (Nat.le_of_ble_eq_true rfl) (Nat.le_of_ble_eq_true rfl) (fun h3 H hh hm hs => ?_)
  refine r_putR C hm hs flX9_15 (Or.inr ⟨ffX9_15, hin rfl⟩) dX9_init_17 hh (fun h4 H locs _ hh hm hs => ?_)
  refine r_aload_n C.1 C.2.1 dX9_init_20 rfl (lv_at hl 0 rfl) ?_
  refine lv_bipush (v := 60) C.1 C.2.1 dX9_init_21 (by decide) ?_
  refine r_newaG C hm hs (kd := 20) (w := 4) (by decide) aw20 dX9_init_23 (N := 60) (by decide) (by decide) (by decide) hh (Nat.le_of_ble_eq_true rfl) (Nat.le_of_ble_eq_true rfl) (fun h5 H hh hm hs => ?_)
  refine r_putR C hm hs flX9_18 (Or.inr ⟨ffX9_18, hin rfl⟩) dX9_init_25 hh (fun h6 H locs _ hh hm hs => ?_)
  refine r_aload_n C.1 C.2.1 dX9_init_28 rfl (lv_at hl 0 rfl) ?_
  refine lv_bipush (v := 60) C.1 C.2.1 dX9_init_29 (by decide) ?_
  refine r_newaG C hm hs (kd := 20) (w := 4) (by decide) aw20 dX9_init_31 (N := 60) (by decide) (by decide) (by decide) hh (Nat.le_of_ble_eq_true rfl) (Nat.le_of_ble_eq_true rfl) (fun h7 H hh hm hs => ?_)
  refine r_putR C hm hs flX9_21 (Or.inr ⟨ffX9_21, hin rfl⟩) dX9_init_33 hh (fun h8 H locs _ hh hm hs => ?_)
  refine r_aload_n C.1 C.2.1 dX9_init_36 rfl (lv_at hl 0 rfl) ?_
  refine lv_bipush (v := 60) C.1 C.2.1 dX9_init_37 (by decide) ?_
  refine r_newaG C hm hs (kd := 20) (w := 4) (by decide) aw20 dX9_init_39 (N := 60) (by decide) (by decide) (by decide) hh (Nat.le_of_ble_eq_true rfl) (Nat.le_of_ble_eq_true rfl) (fun h9 H hh hm hs => ?_)
  refine r_putR C hm hs flX9_24 (Or.inr ⟨ffX9_24, hin rfl⟩) dX9_init_41 hh (fun h10 H locs _ hh hm hs => ?_)
  refine r_aload_n C.1 C.2.1 dX9_init_44 rfl (lv_at hl 0 rfl) ?_
  refine lv_sipush (v := 360) C.1 C.2.1 dX9_init_45 (by decide) ?_
  refine r_newaG C hm hs (kd := 20) (w := 4) (by decide) aw20 dX9_init_48 (N := 360) (by decide) (by decide) (by decide) hh (Nat.le_of_ble_eq_true rfl) (Nat.le_of_ble_eq_true rfl) (fun h11 H hh hm hs => ?_)
  refine r_putR C hm hs flX9_27 (Or.inr ⟨ffX9_27, hin rfl⟩) dX9_init_50 hh (fun h12 H locs _ hh hm hs => ?_)
  refine r_aload_n C.1 C.2.1 dX9_init_53 rfl (lv_at hl 0 rfl) ?_
  refine lv_sipush (v := 360) C.1 C.2.1 dX9_init_54 (by decide) ?_
  refine r_newaG C hm hs (kd := 20) (w := 4) (by decide) aw20 dX9_init_57 (N := 360) (by decide) (by decide) (by decide) hh (Nat.le_of_ble_eq_true rfl) (Nat.le_of_ble_eq_true rfl) (fun h13 H hh hm hs => ?_)
  refine r_putR C hm hs flX9_30 (Or.inr ⟨ffX9_30, hin rfl⟩) dX9_init_59 hh (fun h14 H locs _ hh hm hs => ?_)
  refine r_aload_n C.1 C.2.1 dX9_init_62 rfl (lv_at hl 0 rfl) ?_
  refine lv_sipush (v := 1800) C.1 C.2.1 dX9_init_63 (by decide) ?_
  refine r_newaG C hm hs (kd := 20) (w := 4) (by decide) aw20 dX9_init_66 (N := 1800) (by decide) (by decide) (by decide) hh (Nat.le_of_ble_eq_true rfl) (Nat.le_of_ble_eq_true rfl) (fun h15 H hh hm hs => ?_)
  refine r_putR C hm hs flX9_33 (Or.inr ⟨ffX9_33, hin rfl⟩) dX9_init_68 hh (fun h16 H locs _ hh hm hs => ?_)
  refine r_aload_n C.1 C.2.1 dX9_init_71 rfl (lv_at hl 0 rfl) ?_
  refine lv_bipush (v := 6) C.1 C.2.1 dX9_init_72 (by decide) ?_
  refine r_newaG C hm hs (kd := 20) (w := 4) (by decide) aw20 dX9_init_74 (N := 6) (by decide) (by decide) (by decide) hh (Nat.le_of_ble_eq_true rfl) (Nat.le_of_ble_eq_true rfl) (fun h17 H hh hm hs => ?_)
  refine r_putR C hm hs flX9_36 (Or.inr ⟨ffX9_36, hin rfl⟩) dX9_init_76 hh (fun h18 H locs _ hh hm hs => ?_)
  refine r_aload_n C.1 C.2.1 dX9_init_79 rfl (lv_at hl 0 rfl) ?_
  refine r_aload_n C.1 C.2.1 dX9_init_80 rfl (lv_at hl 1 rfl) ?_
  refine r_putR C hm hs flX9_39 (Or.inl fm_10_5) dX9_init_81 hh (fun h19 H locs _ hh hm hs => ?_)
  refine W.widen (k := 9) (n := 2826) (by omega) (by omega) ?_
  exact r_vretW hQ C hr hm hs hh dX9_init_84
def mX9_begin (h : MHp) (a0 : Nat) (a1 : Option Nat) : Option (MHp) := (pR 10 5 h (some a0) a1).bind fun h1 => (pI 10 6 h1 (some a0) 0).bind fun h2 => (pI 10 7 h2 (some a0) 0).bind fun h3 => some h3
set_option maxRecDepth 100000 in
set_option maxHeartbeats 4000000 in
theorem c_X9_begin (l : Launch) (G : Env0) (h : MHp) (a0 : Nat) (a1 : Option Nat) (res : MHp) (hh : mX9_begin h a0 a1 = some res) : MG l yX9_begin cX9_begin 2 none 0 0 0 0 G h [.ref a0, va_rf a1] (none) (res) := by
  refine MG_of (own := RX9) (plainFor_of_name (by decide)) rfl (by simp [lg_sl, va_cat, vc_i, vc_l, vc_r]) ?_
  intro p e s m args below meth c Q ls hQ C X hin hm hs hl hr
  have hl : lv_has ls 2 [(0, .ref a0), (1, va_rf a1)] := by simpa [lv_args, va_cat, vc_i, vc_l, vc_r] using hl
  have hl : lv_has ls 2 [(0, va_rf (some a0)), (1, va_rf a1)] := hl
  unfold mX9_begin at hh
  refine r_aload_n C.1 C.2.1 dX9_begin_0 rfl (lv_at hl 0 rfl) ?_
  refine r_aload_n C.1 C.2.1 dX9_begin_1 rfl (lv_at hl 1 rfl) ?_
  refine r_putR C hm hs flX9_39 (Or.inl fm_10_5) dX9_begin_2 hh (fun h1 H locs _ hh hm hs => ?_)
  refine r_aload_n C.1 C.2.1 dX9_begin_5 rfl (lv_at hl 0 rfl) ?_
  refine lv_iconst (v := 0) C.1 C.2.1 dX9_begin_6 (by decide) ?_
  refine r_putI C hm hs flX9_43 (Or.inl fm_10_6) dX9_begin_7 hh (fun h2 H locs _ hh hm hs => ?_)
  refine r_aload_n C.1 C.2.1 dX9_begin_10 rfl (lv_at hl 0 rfl) ?_
  refine lv_iconst (v := 0) C.1 C.2.1 dX9_begin_11 (by decide) ?_
  refine r_putI C hm hs flX9_47 (Or.inl fm_10_7) dX9_begin_12 hh (fun h3 H locs _ hh hm hs => ?_)
  exact r_vretW hQ C hr hm hs hh dX9_begin_15
def mX9_has (h : MHp) (a0 : Nat) (a1 : Int32) : Option (Int32) := (if a1 < 0 then some 0 else (gI 10 6 h (some a0)).bind fun x1 => (if x1 ≤ a1 then some 0 else (if 60 ≤ a1 then some 0 else some 1)))
set_option maxRecDepth 100000 in
set_option maxHeartbeats 4000000 in
theorem c_X9_has (l : Launch) (G : Env0) (h : MHp) (a0 : Nat) (a1 : Int32) (res : Int32) (hh : mX9_has h a0 a1 = some res) : MG l yX9_has cX9_has 2 (some .boolean) 0 0 0 0 G h [.ref a0, .int a1] (some (.int res)) (h) := by
  refine MG_of (own := RX9) (plainFor_of_name (by decide)) rfl (Nat.le_of_ble_eq_true rfl) ?_
  intro p e s m args below meth c Q ls hQ C X hin hm hs hl hr
  have hl : lv_has ls 2 [(0, va_rf (some a0)), (1, .int a1)] := hl
  unfold mX9_has at hh
  refine lv_iload_n C.1 C.2.1 dX9_has_0 rfl (lv_at hl 1 rfl) ?_
  refine lv_if_lt (tgt := 22) C.1 C.2.1 dX9_has_1 (by decide) (fun c4 => ?_) (fun c4 => ?_)
  · rw [if_pos c4] at hh
    refine lv_iconst (v := 0) C.1 C.2.1 dX9_has_22 (by decide) ?_
    exact r_bretP hQ C hr hm hs (by decide) hh dX9_has_23
  · rw [if_neg c4] at hh
    refine lv_iload_n C.1 C.2.1 dX9_has_4 rfl (lv_at hl 1 rfl) ?_
    refine r_aload_n C.1 C.2.1 dX9_has_5 rfl (lv_at hl 0 rfl) ?_
    refine r_getI C hm flX9_43 dX9_has_6 hh (fun x1 _ hh => ?_)
    refine lv_icmp_ge (tgt := 22) C.1 C.2.1 dX9_has_9 (by decide) (fun c3 => ?_) (fun c3 => ?_)
    · rw [if_pos c3] at hh
      refine lv_iconst (v := 0) C.1 C.2.1 dX9_has_22 (by decide) ?_
      exact r_bretP hQ C hr hm hs (by decide) hh dX9_has_23
    · rw [if_neg c3] at hh
      refine lv_iload_n C.1 C.2.1 dX9_has_12 rfl (lv_at hl 1 rfl) ?_
      refine lv_bipush (v := 60) C.1 C.2.1 dX9_has_13 (by decide) ?_
      refine lv_icmp_ge (tgt := 22) C.1 C.2.1 dX9_has_15 (by decide) (fun c2 => ?_) (fun c2 => ?_)
      · rw [if_pos c2] at hh
        refine lv_iconst (v := 0) C.1 C.2.1 dX9_has_22 (by decide) ?_
        exact r_bretP hQ C hr hm hs (by decide) hh dX9_has_23
      · rw [if_neg c2] at hh
        refine lv_iconst (v := 1) C.1 C.2.1 dX9_has_18 (by decide) ?_
        refine lv_goto (tgt := 23) C.1 C.2.1 dX9_has_19 (by decide) ?_
        exact r_bretP hQ C hr hm hs (by decide) hh dX9_has_23
def mX9_isFull (h : MHp) (a0 : Nat) : Option (Int32) := (gI 10 6 h (some a0)).bind fun x1 => (if x1 < 60 then some 0 else some 1)
set_option maxRecDepth 100000 in
set_option maxHeartbeats 4000000 in
theorem c_X9_isFull (l : Launch) (G : Env0) (h : MHp) (a0 : Nat) (res : Int32) (hh : mX9_isFull h a0 = some res) : MG l yX9_isFull cX9_isFull 1 (some .boolean) 0 0 0 0 G h [.ref a0] (some (.int res)) (h) := by
  refine MG_of (own := RX9) (plainFor_of_name (by decide)) rfl (Nat.le_of_ble_eq_true rfl) ?_
  intro p e s m args below meth c Q ls hQ C X hin hm hs hl hr
  have hl : lv_has ls 1 [(0, va_rf (some a0))] := hl
  unfold mX9_isFull at hh
  refine r_aload_n C.1 C.2.1 dX9_isFull_0 rfl (lv_at hl 0 rfl) ?_
  refine r_getI C hm flX9_43 dX9_isFull_1 hh (fun x1 _ hh => ?_)
  refine lv_bipush (v := 60) C.1 C.2.1 dX9_isFull_4 (by decide) ?_
  refine lv_icmp_lt (tgt := 13) C.1 C.2.1 dX9_isFull_6 (by decide) (fun c2 => ?_) (fun c2 => ?_)
  · rw [if_pos c2] at hh
    refine lv_iconst (v := 0) C.1 C.2.1 dX9_isFull_13 (by decide) ?_
    exact r_bretP hQ C hr hm hs (by decide) hh dX9_isFull_14
  · rw [if_neg c2] at hh
    refine lv_iconst (v := 1) C.1 C.2.1 dX9_isFull_9 (by decide) ?_
    refine lv_goto (tgt := 14) C.1 C.2.1 dX9_isFull_10 (by decide) ?_
    exact r_bretP hQ C hr hm hs (by decide) hh dX9_isFull_14
def mX9_isDay (h : MHp) (a0 : Nat) (a1 : Int32) : Option (Int32) := (if a1 < 0 then some 0 else (gI 10 7 h (some a0)).bind fun x1 => (if x1 < a1 then some 0 else some 1))
set_option maxRecDepth 100000 in
set_option maxHeartbeats 4000000 in
theorem c_X9_isDay (l : Launch) (G : Env0) (h : MHp) (a0 : Nat) (a1 : Int32) (res : Int32) (hh : mX9_isDay h a0 a1 = some res) : MG l yX9_isDay cX9_isDay 2 (some .boolean) 0 0 0 0 G h [.ref a0, .int a1] (some (.int res)) (h) := by
  refine MG_of (own := RX9) (plainFor_of_name (by decide)) rfl (Nat.le_of_ble_eq_true rfl) ?_
  intro p e s m args below meth c Q ls hQ C X hin hm hs hl hr
  have hl : lv_has ls 2 [(0, va_rf (some a0)), (1, .int a1)] := hl
  unfold mX9_isDay at hh
  refine lv_iload_n C.1 C.2.1 dX9_isDay_0 rfl (lv_at hl 1 rfl) ?_
  refine lv_if_lt (tgt := 16) C.1 C.2.1 dX9_isDay_1 (by decide) (fun c3 => ?_) (fun c3 => ?_)
  · rw [if_pos c3] at hh
    refine lv_iconst (v := 0) C.1 C.2.1 dX9_isDay_16 (by decide) ?_
    exact r_bretP hQ C hr hm hs (by decide) hh dX9_isDay_17
  · rw [if_neg c3] at hh
    refine lv_iload_n C.1 C.2.1 dX9_isDay_4 rfl (lv_at hl 1 rfl) ?_
    refine r_aload_n C.1 C.2.1 dX9_isDay_5 rfl (lv_at hl 0 rfl) ?_
    refine r_getI C hm flX9_47 dX9_isDay_6 hh (fun x1 _ hh => ?_)
    refine lv_icmp_gt (tgt := 16) C.1 C.2.1 dX9_isDay_9 (by decide) (fun c2 => ?_) (fun c2 => ?_)
    · rw [if_pos c2] at hh
      refine lv_iconst (v := 0) C.1 C.2.1 dX9_isDay_16 (by decide) ?_
      exact r_bretP hQ C hr hm hs (by decide) hh dX9_isDay_17
    · rw [if_neg c2] at hh
      refine lv_iconst (v := 1) C.1 C.2.1 dX9_isDay_12 (by decide) ?_
      refine lv_goto (tgt := 17) C.1 C.2.1 dX9_isDay_13 (by decide) ?_
      exact r_bretP hQ C hr hm hs (by decide) hh dX9_isDay_17
def mX9_keep (h : MHp) (a0 : Option Nat) (a1 : Option Nat) (a2 : Int32) : Option (MHp) := (if a2 < 0 then some h else (gN 20 h a1).bind fun x1 => (if x1 < (a2 + 6) then some h else (gN 20 h a0).bind fun x2 => (if x2 < (6 : Int32) then some h else (cpI 20 h a0 0 a1 a2 6).bind fun h3 => some h3)))
set_option maxRecDepth 100000 in
set_option maxHeartbeats 4000000 in
theorem c_X9_keep (l : Launch) (G : Env0) (h : MHp) (a0 : Option Nat) (a1 : Option Nat) (a2 : Int32) (res : MHp) (hh : mX9_keep h a0 a1 a2 = some res) : MG l yX9_keep cX9_keep 3 none 1 18 0 0 G h [va_rf a0, va_rf a1, .int a2] (none) (res) := by
  refine MG_of (own := RX9) (plainFor_of_name (by decide)) rfl (by simp [lg_sl, va_cat, vc_i, vc_l, vc_r]) ?_
  intro p e s m args below meth c Q ls hQ C X hin hm hs hl hr
  have hl : lv_has ls 3 [(0, va_rf a0), (1, va_rf a1), (2, .int a2)] := by simpa [lv_args, va_cat, vc_i, vc_l, vc_r] using hl
  have hl : lv_has ls 3 [(0, va_rf a0), (1, va_rf a1), (2, .int a2)] := hl
  unfold mX9_keep at hh
  refine lv_iload_n C.1 C.2.1 dX9_keep_0 rfl (lv_at hl 2 rfl) ?_
  refine lv_if_lt (tgt := 29) C.1 C.2.1 dX9_keep_1 (by decide) (fun c6 => ?_) (fun c6 => ?_)
  · rw [if_pos c6] at hh
    exact r_vretW hQ C hr hm hs hh dX9_keep_29
  · rw [if_neg c6] at hh
    refine lv_iload_n C.1 C.2.1 dX9_keep_4 rfl (lv_at hl 2 rfl) ?_
    refine lv_bipush (v := 6) C.1 C.2.1 dX9_keep_5 (by decide) ?_
    refine lv_iadd C.1 C.2.1 dX9_keep_7 ?_
    refine r_aload_n C.1 C.2.1 dX9_keep_8 rfl (lv_at hl 1 rfl) ?_
    refine r_len C hm dX9_keep_9 (kd := 20) (by decide) hh (fun x1 _ hh => ?_)
    refine lv_icmp_gt (tgt := 29) C.1 C.2.1 dX9_keep_10 (by decide) (fun c5 => ?_) (fun c5 => ?_)
    · rw [if_pos c5] at hh
      exact r_vretW hQ C hr hm hs hh dX9_keep_29
    · rw [if_neg c5] at hh
      refine lv_bipush (v := 6) C.1 C.2.1 dX9_keep_13 (by decide) ?_
      refine r_aload_n C.1 C.2.1 dX9_keep_15 rfl (lv_at hl 0 rfl) ?_
      refine r_len C hm dX9_keep_16 (kd := 20) (by decide) hh (fun x2 _ hh => ?_)
      refine lv_icmp_gt (tgt := 29) C.1 C.2.1 dX9_keep_17 (by decide) (fun c4 => ?_) (fun c4 => ?_)
      · rw [if_pos c4] at hh
        exact r_vretW hQ C hr hm hs hh dX9_keep_29
      · rw [if_neg c4] at hh
        refine r_aload_n C.1 C.2.1 dX9_keep_20 rfl (lv_at hl 0 rfl) ?_
        refine lv_iconst (v := 0) C.1 C.2.1 dX9_keep_21 (by decide) ?_
        refine r_aload_n C.1 C.2.1 dX9_keep_22 rfl (lv_at hl 1 rfl) ?_
        refine lv_iload_n C.1 C.2.1 dX9_keep_23 rfl (lv_at hl 2 rfl) ?_
        refine lv_bipush (v := 6) C.1 C.2.1 dX9_keep_24 (by decide) ?_
        refine r_copyI C hm hs (in_tbl q_684 rfl) ACW dX9_keep_26 hl.1 (Nat.le_of_ble_eq_true rfl) (Nat.le_of_ble_eq_true rfl) hh (fun h3 H locs _ hh hm hs => ?_)
        exact r_vretW hQ C hr hm hs hh dX9_keep_29
def mX9_add (h : MHp) (a0 : Nat) (a1 : Option Nat) : Option (Int32 × MHp) := (gI 10 6 h (some a0)).bind fun x1 => (if x1 < 0 then some ((-1), h) else (gI 10 6 h (some a0)).bind fun x2 => (if x2 < 60 then (gR 10 0 h (some a0)).bind fun x3 => (gI 10 6 h (some a0)).bind fun x4 => (gI 10 7 h (some a0)).bind fun x5 => (pAI 20 h x3 x4 x5).bind fun h6 => (gR 10 1 h6 (some a0)).bind fun x7 => (gI 10 6 h6 (some a0)).bind fun x8 => (pAI 20 h6 x7 x8 (-2)).bind fun h9 => (gR 10 2 h9 (some a0)).bind fun x10 => (gI 10 6 h9 (some a0)).bind fun x11 => (pAI 20 h9 x10 x11 (-2)).bind fun h12 => (gR 10 3 h12 (some a0)).bind fun x13 => (gI 10 6 h12 (some a0)).bind fun x14 => (pAI 20 h12 x13 x14 (-2)).bind fun h15 => (gR 10 4 h15 (some a0)).bind fun x16 => (gI 10 6 h15 (some a0)).bind fun x17 => (pAI 20 h15 x16 x17 1).bind fun h18 => (gR 10 8 h18 (some a0)).bind fun x19 => (gI 10 6 h18 (some a0)).bind fun x20 => (mX9_keep h18 a1 x19 (x20 * 6)).bind fun r21 => (gI 10 6 r21 (some a0)).bind fun x22 => (pI 10 6 r21 (some a0) (x22 + 1)).bind fun h23 => (gI 10 6 h23 (some a0)).bind fun x24 => some ((x24 - 1), h23) else some ((-1), h)))
set_option maxRecDepth 100000 in
set_option maxHeartbeats 4000000 in
theorem c_X9_add (l : Launch) (G : Env0) (h : MHp) (a0 : Nat) (a1 : Option Nat) (res : Int32 × MHp) (hh : mX9_add h a0 a1 = some res) : MG l yX9_add cX9_add 2 (some .int) 2 40 0 0 G h [.ref a0, va_rf a1] (some (.int res.1)) (res.2) := by
  refine MG_of (own := RX9) (plainFor_of_name (by decide)) rfl (by simp [lg_sl, va_cat, vc_i, vc_l, vc_r]) ?_
  intro p e s m args below meth c Q ls hQ C X hin hm hs hl hr
  have hl : lv_has ls 2 [(0, .ref a0), (1, va_rf a1)] := by simpa [lv_args, va_cat, vc_i, vc_l, vc_r] using hl
  have hl : lv_has ls 2 [(0, va_rf (some a0)), (1, va_rf a1)] := hl
  unfold mX9_add at hh
  refine r_aload_n C.1 C.2.1 dX9_add_0 rfl (lv_at hl 0 rfl) ?_
  refine r_getI C hm flX9_43 dX9_add_1 hh (fun x1 _ hh => ?_)
  refine lv_if_lt (tgt := 16) C.1 C.2.1 dX9_add_4 (by decide) (fun c26 => ?_) (fun c26 => ?_)
  · rw [if_pos c26] at hh
    refine lv_iconst (v := (-1)) C.1 C.2.1 dX9_add_16 (by decide) ?_
    exact r_iretW hQ C hr hm hs hh dX9_add_17
  · rw [if_neg c26] at hh
    refine r_aload_n C.1 C.2.1 dX9_add_7 rfl (lv_at hl 0 rfl) ?_
    refine r_getI C hm flX9_43 dX9_add_8 hh (fun x2 _ hh => ?_)
    refine lv_bipush (v := 60) C.1 C.2.1 dX9_add_11 (by decide) ?_
    refine lv_icmp_lt (tgt := 18) C.1 C.2.1 dX9_add_13 (by decide) (fun c25 => ?_) (fun c25 => ?_)
    · rw [if_pos c25] at hh
      refine r_aload_n C.1 C.2.1 dX9_add_18 rfl (lv_at hl 0 rfl) ?_
      refine r_getR C hm flX9_9 dX9_add_19 hh (fun x3 _ hh => ?_)
      refine r_aload_n C.1 C.2.1 dX9_add_22 rfl (lv_at hl 0 rfl) ?_
      refine r_getI C hm flX9_43 dX9_add_23 hh (fun x4 _ hh => ?_)
      refine r_aload_n C.1 C.2.1 dX9_add_26 rfl (lv_at hl 0 rfl) ?_
      refine r_getI C hm flX9_47 dX9_add_27 hh (fun x5 _ hh => ?_)
      refine r_ast C hm hs dX9_add_30 hh (fun h6 H locs _ hh hm hs => ?_)
      refine r_aload_n C.1 C.2.1 dX9_add_31 rfl (lv_at hl 0 rfl) ?_
      refine r_getR C hm flX9_15 dX9_add_32 hh (fun x7 _ hh => ?_)
      refine r_aload_n C.1 C.2.1 dX9_add_35 rfl (lv_at hl 0 rfl) ?_
      refine r_getI C hm flX9_43 dX9_add_36 hh (fun x8 _ hh => ?_)
      refine lv_bipush (v := (-2)) C.1 C.2.1 dX9_add_39 (by decide) ?_
      refine r_ast C hm hs dX9_add_41 hh (fun h9 H locs _ hh hm hs => ?_)
      refine r_aload_n C.1 C.2.1 dX9_add_42 rfl (lv_at hl 0 rfl) ?_
      refine r_getR C hm flX9_18 dX9_add_43 hh (fun x10 _ hh => ?_)
      refine r_aload_n C.1 C.2.1 dX9_add_46 rfl (lv_at hl 0 rfl) ?_
      refine r_getI C hm flX9_43 dX9_add_47 hh (fun x11 _ hh => ?_)
      refine lv_bipush (v := (-2)) C.1 C.2.1 dX9_add_50 (by decide) ?_
      refine r_ast C hm hs dX9_add_52 hh (fun h12 H locs _ hh hm hs => ?_)
      refine r_aload_n C.1 C.2.1 dX9_add_53 rfl (lv_at hl 0 rfl) ?_
      refine r_getR C hm flX9_21 dX9_add_54 hh (fun x13 _ hh => ?_)
      refine r_aload_n C.1 C.2.1 dX9_add_57 rfl (lv_at hl 0 rfl) ?_
      refine r_getI C hm flX9_43 dX9_add_58 hh (fun x14 _ hh => ?_)
      refine lv_bipush (v := (-2)) C.1 C.2.1 dX9_add_61 (by decide) ?_
      refine r_ast C hm hs dX9_add_63 hh (fun h15 H locs _ hh hm hs => ?_)
      refine r_aload_n C.1 C.2.1 dX9_add_64 rfl (lv_at hl 0 rfl) ?_
      refine r_getR C hm flX9_24 dX9_add_65 hh (fun x16 _ hh => ?_)
      refine r_aload_n C.1 C.2.1 dX9_add_68 rfl (lv_at hl 0 rfl) ?_
      refine r_getI C hm flX9_43 dX9_add_69 hh (fun x17 _ hh => ?_)
      refine lv_iconst (v := 1) C.1 C.2.1 dX9_add_72 (by decide) ?_
      refine r_ast C hm hs dX9_add_73 hh (fun h18 H locs _ hh hm hs => ?_)
      refine r_aload_n C.1 C.2.1 dX9_add_74 rfl (lv_at hl 1 rfl) ?_
      refine r_aload_n C.1 C.2.1 dX9_add_75 rfl (lv_at hl 0 rfl) ?_
      refine r_getR C hm flX9_27 dX9_add_76 hh (fun x19 _ hh => ?_)
      refine r_aload_n C.1 C.2.1 dX9_add_79 rfl (lv_at hl 0 rfl) ?_
      refine r_getI C hm flX9_43 dX9_add_80 hh (fun x20 _ hh => ?_)
      refine lv_bipush (v := 6) C.1 C.2.1 dX9_add_83 (by decide) ?_
      refine lv_imul C.1 C.2.1 dX9_add_85 ?_
      refine r_cS C X hm hs mlX9_50 msX9_50 hh (vv := fun r => none) (hp := fun r => r) (fun r hg => c_X9_keep l G h18 _ _ _ r hg) rfl rfl (Nat.le_of_ble_eq_true rfl) (Nat.le_of_ble_eq_true rfl) (Nat.le_of_ble_eq_true rfl) hl.1 dX9_add_86 (fun r21 H locs hgr21 hh hm hs => ?_)
      refine W.eq (g2 := F0 m 89 ls []) rfl ?_
      refine r_aload_n C.1 C.2.1 dX9_add_89 rfl (lv_at hl 0 rfl) ?_
      refine lv_dup C.1 C.2.1 dX9_add_90 (va_cat _) ?_
      refine r_getI C hm flX9_43 dX9_add_91 hh (fun x22 _ hh => ?_)
      refine lv_iconst (v := 1) C.1 C.2.1 dX9_add_94 (by decide) ?_
      refine lv_iadd C.1 C.2.1 dX9_add_95 ?_
      refine r_putI C hm hs flX9_43 (Or.inl fm_10_6) dX9_add_96 hh (fun h23 H locs _ hh hm hs => ?_)
      refine r_aload_n C.1 C.2.1 dX9_add_99 rfl (lv_at hl 0 rfl) ?_
      refine r_getI C hm flX9_43 dX9_add_100 hh (fun x24 _ hh => ?_)
      refine lv_iconst (v := 1) C.1 C.2.1 dX9_add_103 (by decide) ?_
      refine lv_isub C.1 C.2.1 dX9_add_104 ?_
      exact r_iretW hQ C hr hm hs hh dX9_add_105
    · rw [if_neg c25] at hh
      refine lv_iconst (v := (-1)) C.1 C.2.1 dX9_add_16 (by decide) ?_
      exact r_iretW hQ C hr hm hs hh dX9_add_17
def mX9_isWithdrawn (h : MHp) (a0 : Nat) (a1 : Int32) : Option (Int32) := (rcv 10 h (some a0)).bind fun b2 => (mX9_has h b2 a1).bind fun r1 => (if r1 = 0 then some 0 else (gR 10 1 h (some a0)).bind fun x3 => (gAI 20 h x3 a1).bind fun x4 => (if x4 = (-2) then some 0 else some 1))
set_option maxRecDepth 100000 in
set_option maxHeartbeats 4000000 in
theorem c_X9_isWithdrawn (l : Launch) (G : Env0) (h : MHp) (a0 : Nat) (a1 : Int32) (res : Int32) (hh : mX9_isWithdrawn h a0 a1 = some res) : MG l yX9_isWithdrawn cX9_isWithdrawn 2 (some .boolean) 1 21 0 0 G h [.ref a0, .int a1] (some (.int res)) (h) := by
  refine MG_of (own := RX9) (plainFor_of_name (by decide)) rfl (Nat.le_of_ble_eq_true rfl) ?_
  intro p e s m args below meth c Q ls hQ C X hin hm hs hl hr
  have hl : lv_has ls 2 [(0, va_rf (some a0)), (1, .int a1)] := hl
  unfold mX9_isWithdrawn at hh
  refine r_aload_n C.1 C.2.1 dX9_isWithdrawn_0 rfl (lv_at hl 0 rfl) ?_
  refine lv_iload_n C.1 C.2.1 dX9_isWithdrawn_1 rfl (lv_at hl 1 rfl) ?_
  refine r_cV C X hm hs mlX9_60 mvX9_60 hh (vv := fun r => some (.int r)) (hp := fun r => h) (fun b r hg => c_X9_has l G h b _ r hg) rfl rfl (Nat.le_of_ble_eq_true rfl) (Nat.le_of_ble_eq_true rfl) (Nat.le_of_ble_eq_true rfl) hl.1 dX9_isWithdrawn_2 (fun b2 r1 H locs hgr1 hh hm hs => ?_)
  refine W.eq (g2 := F0 m 5 ls [.int r1]) rfl ?_
  refine lv_if_eq (tgt := 23) C.1 C.2.1 dX9_isWithdrawn_5 (by decide) (fun c6 => ?_) (fun c6 => ?_)
  · rw [if_pos c6] at hh
    refine lv_iconst (v := 0) C.1 C.2.1 dX9_isWithdrawn_23 (by decide) ?_
    exact r_bretP hQ C hr hm hs (by decide) hh dX9_isWithdrawn_24
  · rw [if_neg c6] at hh
    refine r_aload_n C.1 C.2.1 dX9_isWithdrawn_8 rfl (lv_at hl 0 rfl) ?_
    refine r_getR C hm flX9_15 dX9_isWithdrawn_9 hh (fun x3 _ hh => ?_)
    refine lv_iload_n C.1 C.2.1 dX9_isWithdrawn_12 rfl (lv_at hl 1 rfl) ?_
    refine r_ald C hm dX9_isWithdrawn_13 hh (fun x4 _ hh => ?_)
    refine lv_bipush (v := (-2)) C.1 C.2.1 dX9_isWithdrawn_14 (by decide) ?_
    refine lv_icmp_eq (tgt := 23) C.1 C.2.1 dX9_isWithdrawn_16 (by decide) (fun c5 => ?_) (fun c5 => ?_)
    · rw [if_pos c5] at hh
      refine lv_iconst (v := 0) C.1 C.2.1 dX9_isWithdrawn_23 (by decide) ?_
      exact r_bretP hQ C hr hm hs (by decide) hh dX9_isWithdrawn_24
    · rw [if_neg c5] at hh
      refine lv_iconst (v := 1) C.1 C.2.1 dX9_isWithdrawn_19 (by decide) ?_
      refine lv_goto (tgt := 24) C.1 C.2.1 dX9_isWithdrawn_20 (by decide) ?_
      exact r_bretP hQ C hr hm hs (by decide) hh dX9_isWithdrawn_24
def mX9_isSince (h : MHp) (a0 : Int32) (a1 : Int32) : Option (Int32) := (if a0 = (-2) then some 0 else (if a1 < a0 then some 0 else some 1))
set_option maxRecDepth 100000 in
set_option maxHeartbeats 4000000 in
theorem c_X9_isSince (l : Launch) (G : Env0) (h : MHp) (a0 : Int32) (a1 : Int32) (res : Int32) (hh : mX9_isSince h a0 a1 = some res) : MG l yX9_isSince cX9_isSince 2 (some .boolean) 0 0 0 0 G h [.int a0, .int a1] (some (.int res)) (h) := by
  refine MG_of (own := RX9) (plainFor_of_name (by decide)) rfl (Nat.le_of_ble_eq_true rfl) ?_
  intro p e s m args below meth c Q ls hQ C X hin hm hs hl hr
  have hl : lv_has ls 2 [(0, .int a0), (1, .int a1)] := hl
  unfold mX9_isSince at hh
  refine lv_iload_n C.1 C.2.1 dX9_isSince_0 rfl (lv_at hl 0 rfl) ?_
  refine lv_bipush (v := (-2)) C.1 C.2.1 dX9_isSince_1 (by decide) ?_
  refine lv_icmp_eq (tgt := 15) C.1 C.2.1 dX9_isSince_3 (by decide) (fun c2 => ?_) (fun c2 => ?_)
  · rw [if_pos c2] at hh
    refine lv_iconst (v := 0) C.1 C.2.1 dX9_isSince_15 (by decide) ?_
    exact r_bretP hQ C hr hm hs (by decide) hh dX9_isSince_16
  · rw [if_neg c2] at hh
    refine lv_iload_n C.1 C.2.1 dX9_isSince_6 rfl (lv_at hl 1 rfl) ?_
    refine lv_iload_n C.1 C.2.1 dX9_isSince_7 rfl (lv_at hl 0 rfl) ?_
    refine lv_icmp_lt (tgt := 15) C.1 C.2.1 dX9_isSince_8 (by decide) (fun c1 => ?_) (fun c1 => ?_)
    · rw [if_pos c1] at hh
      refine lv_iconst (v := 0) C.1 C.2.1 dX9_isSince_15 (by decide) ?_
      exact r_bretP hQ C hr hm hs (by decide) hh dX9_isSince_16
    · rw [if_neg c1] at hh
      refine lv_iconst (v := 1) C.1 C.2.1 dX9_isSince_11 (by decide) ?_
      refine lv_goto (tgt := 16) C.1 C.2.1 dX9_isSince_12 (by decide) ?_
      exact r_bretP hQ C hr hm hs (by decide) hh dX9_isSince_16
def mX9_isThere (h : MHp) (a0 : Nat) (a1 : Int32) (a2 : Int32) : Option (Int32) := (rcv 10 h (some a0)).bind fun b2 => (mX9_has h b2 a1).bind fun r1 => (if r1 = 0 then some 0 else (gR 10 0 h (some a0)).bind fun x3 => (gAI 20 h x3 a1).bind fun x4 => (if a2 < x4 then some 0 else (gR 10 1 h (some a0)).bind fun x5 => (gAI 20 h x5 a1).bind fun x6 => (mX9_isSince h x6 a2).bind fun r7 => (if r7 = 0 then some 1 else some 0)))
set_option maxRecDepth 100000 in
set_option maxHeartbeats 4000000 in
theorem c_X9_isThere (l : Launch) (G : Env0) (h : MHp) (a0 : Nat) (a1 : Int32) (a2 : Int32) (res : Int32) (hh : mX9_isThere h a0 a1 a2 = some res) : MG l yX9_isThere cX9_isThere 3 (some .boolean) 1 21 0 0 G h [.ref a0, .int a1, .int a2] (some (.int res)) (h) := by
  refine MG_of (own := RX9) (plainFor_of_name (by decide)) rfl (Nat.le_of_ble_eq_true rfl) ?_
  intro p e s m args below meth c Q ls hQ C X hin hm hs hl hr
  have hl : lv_has ls 3 [(0, va_rf (some a0)), (1, .int a1), (2, .int a2)] := hl
  unfold mX9_isThere at hh
  refine r_aload_n C.1 C.2.1 dX9_isThere_0 rfl (lv_at hl 0 rfl) ?_
  refine lv_iload_n C.1 C.2.1 dX9_isThere_1 rfl (lv_at hl 1 rfl) ?_
  refine r_cV C X hm hs mlX9_60 mvX9_60 hh (vv := fun r => some (.int r)) (hp := fun r => h) (fun b r hg => c_X9_has l G h b _ r hg) rfl rfl (Nat.le_of_ble_eq_true rfl) (Nat.le_of_ble_eq_true rfl) (Nat.le_of_ble_eq_true rfl) hl.1 dX9_isThere_2 (fun b2 r1 H locs hgr1 hh hm hs => ?_)
  refine W.eq (g2 := F0 m 5 ls [.int r1]) rfl ?_
  refine lv_if_eq (tgt := 35) C.1 C.2.1 dX9_isThere_5 (by decide) (fun c10 => ?_) (fun c10 => ?_)
  · rw [if_pos c10] at hh
    refine lv_iconst (v := 0) C.1 C.2.1 dX9_isThere_35 (by decide) ?_
    exact r_bretP hQ C hr hm hs (by decide) hh dX9_isThere_36
  · rw [if_neg c10] at hh
    refine lv_iload_n C.1 C.2.1 dX9_isThere_8 rfl (lv_at hl 2 rfl) ?_
    refine r_aload_n C.1 C.2.1 dX9_isThere_9 rfl (lv_at hl 0 rfl) ?_
    refine r_getR C hm flX9_9 dX9_isThere_10 hh (fun x3 _ hh => ?_)
    refine lv_iload_n C.1 C.2.1 dX9_isThere_13 rfl (lv_at hl 1 rfl) ?_
    refine r_ald C hm dX9_isThere_14 hh (fun x4 _ hh => ?_)
    refine lv_icmp_lt (tgt := 35) C.1 C.2.1 dX9_isThere_15 (by decide) (fun c9 => ?_) (fun c9 => ?_)
    · rw [if_pos c9] at hh
      refine lv_iconst (v := 0) C.1 C.2.1 dX9_isThere_35 (by decide) ?_
      exact r_bretP hQ C hr hm hs (by decide) hh dX9_isThere_36
    · rw [if_neg c9] at hh
      refine r_aload_n C.1 C.2.1 dX9_isThere_18 rfl (lv_at hl 0 rfl) ?_
      refine r_getR C hm flX9_15 dX9_isThere_19 hh (fun x5 _ hh => ?_)
      refine lv_iload_n C.1 C.2.1 dX9_isThere_22 rfl (lv_at hl 1 rfl) ?_
      refine r_ald C hm dX9_isThere_23 hh (fun x6 _ hh => ?_)
      refine lv_iload_n C.1 C.2.1 dX9_isThere_24 rfl (lv_at hl 2 rfl) ?_
      refine r_cS C X hm hs mlX9_64 msX9_64 hh (vv := fun r => some (.int r)) (hp := fun r => h) (fun r hg => c_X9_isSince l G h _ _ r hg) rfl rfl (Nat.le_of_ble_eq_true rfl) (Nat.le_of_ble_eq_true rfl) (Nat.le_of_ble_eq_true rfl) hl.1 dX9_isThere_25 (fun r7 H locs hgr7 hh hm hs => ?_)
      refine W.eq (g2 := F0 m 28 ls [.int r7]) rfl ?_
      refine lv_if_ne (tgt := 35) C.1 C.2.1 dX9_isThere_28 (by decide) (fun c8 => ?_) (fun c8 => ?_)
      · rw [if_neg c8] at hh
        refine lv_iconst (v := 0) C.1 C.2.1 dX9_isThere_35 (by decide) ?_
        exact r_bretP hQ C hr hm hs (by decide) hh dX9_isThere_36
      · rw [if_pos c8] at hh
        refine lv_iconst (v := 1) C.1 C.2.1 dX9_isThere_31 (by decide) ?_
        refine lv_goto (tgt := 36) C.1 C.2.1 dX9_isThere_32 (by decide) ?_
        exact r_bretP hQ C hr hm hs (by decide) hh dX9_isThere_36
def mX9_valueOn_b80 (h : MHp) (a0 : Nat) (v1 : Int32) (v3 : Int32) (v4 : Int32) (v5 : Int32) (t0 : Int32) : Option (Int32) := (if t0 = (-1) then (gR 10 3 h (some a0)).bind fun x1 => (gAI 20 h x1 v1).bind fun x2 => (mX9_isSince h x2 v3).bind fun r3 => (if r3 = 0 then some t0 else (gR 10 10 h (some a0)).bind fun x4 => (gAI 20 h x4 ((v4 * 360) + v5)).bind fun x5 => some x5) else some t0)
def mX9_valueOn (h : MHp) (a0 : Nat) (a1 : Int32) (a2 : Int32) (a3 : Int32) (a4 : Int32) : Option (Int32) := (rcv 10 h (some a0)).bind fun b9 => (mX9_has h b9 a1).bind fun r8 => (if r8 = 0 then some (-2) else (gR 10 5 h (some a0)).bind fun x10 => (rcv 2 h x10).bind fun b12 => (mX1_hasField h b12 a2).bind fun r11 => (if r11 = 0 then some (-2) else (mX11_isWithin h a4 0 4).bind fun r13 => (if r13 = 0 then some (-2) else (gR 10 0 h (some a0)).bind fun x14 => (gAI 20 h x14 a1).bind fun x15 => (if x15 ≤ a3 then (gR 10 2 h (some a0)).bind fun x16 => (gAI 20 h x16 a1).bind fun x17 => (mX9_isSince h x17 a3).bind fun r18 => (if r18 = 0 then (gR 10 8 h (some a0)).bind fun x19 => (gAI 20 h x19 ((a1 * 6) + a2)).bind fun x20 => mX9_valueOn_b80 h a0 a1 a3 a4 ((a1 * 6) + a2) x20 else (gR 10 9 h (some a0)).bind fun x21 => (gAI 20 h x21 ((a1 * 6) + a2)).bind fun x22 => mX9_valueOn_b80 h a0 a1 a3 a4 ((a1 * 6) + a2) x22) else some (-2)))))
set_option maxRecDepth 100000 in
set_option maxHeartbeats 4000000 in
theorem c_X9_valueOn (l : Launch) (G : Env0) (h : MHp) (a0 : Nat) (a1 : Int32) (a2 : Int32) (a3 : Int32) (a4 : Int32) (res : Int32) (hh : mX9_valueOn h a0 a1 a2 a3 a4 = some res) : MG l yX9_valueOn cX9_valueOn 7 (some .int) 1 22 0 0 G h [.ref a0, .int a1, .int a2, .int a3, .int a4] (some (.int res)) (h) := by
  refine MG_of (own := RX9) (plainFor_of_name (by decide)) rfl (Nat.le_of_ble_eq_true rfl) ?_
  intro p e s m args below meth c Q ls hQ C X hin hm hs hl hr
  have hl : lv_has ls 7 [(0, va_rf (some a0)), (1, .int a1), (2, .int a2), (3, .int a3), (4, .int a4)] := hl
  have B80 : ∀ (H : Heap) (locs : List Loc) (ls : Array Slot) (a0 : Nat) (v1 : Int32) (v3 : Int32) (v4 : Int32) (v5 : Int32) (t0 : Int32) , mHp (gD G) (gC G) (gB G) h H → va_S (fun q => gB G ≤ q) s.heap H locs → lv_has ls 7 [(0, va_rf (some a0)), (1, .int v1), (3, .int v3), (4, .int v4), (5, .int v5)] → mX9_valueOn_b80 h a0 v1 v3 v4 v5 t0 = some res → W p l e ({ frames := 1, cells := 0, slots := 0, locals := 22 }) s m args below meth c H locs 0 0 Q (F0 m 80 ls [.int t0]) := by
    intro H locs ls a0 v1 v3 v4 v5 t0 hm hs hl hh
    unfold mX9_valueOn_b80 at hh
    refine lv_istore (i := 6) (lv' := [(6, .int t0), (0, va_rf (some a0)), (1, .int v1), (3, .int v3), (4, .int v4), (5, .int v5)]) C.1 C.2.1 dX9_valueOn_80 hl (by decide) rfl (fun ls hl => ?_)
    refine lv_iload C.1 C.2.1 dX9_valueOn_82 (lv_at hl 0 rfl) ?_
    refine lv_iconst (v := (-1)) C.1 C.2.1 dX9_valueOn_84 (by decide) ?_
    refine lv_icmp_ne (tgt := 118) C.1 C.2.1 dX9_valueOn_85 (by decide) (fun c7 => ?_) (fun c7 => ?_)
    · rw [if_neg c7] at hh
      refine lv_iload C.1 C.2.1 dX9_valueOn_118 (lv_at hl 0 rfl) ?_
      exact r_iretP hQ C hr hm hs hh dX9_valueOn_120
    · rw [if_pos c7] at hh
      refine r_aload_n C.1 C.2.1 dX9_valueOn_88 rfl (lv_at hl 1 rfl) ?_
      refine r_getR C hm flX9_21 dX9_valueOn_89 hh (fun x1 _ hh => ?_)
      refine lv_iload_n C.1 C.2.1 dX9_valueOn_92 rfl (lv_at hl 2 rfl) ?_
      refine r_ald C hm dX9_valueOn_93 hh (fun x2 _ hh => ?_)
      refine lv_iload_n C.1 C.2.1 dX9_valueOn_94 rfl (lv_at hl 3 rfl) ?_
      refine r_cS C X hm hs mlX9_64 msX9_64 hh (vv := fun r => some (.int r)) (hp := fun r => h) (fun r hg => c_X9_isSince l G h _ _ r hg) rfl rfl (Nat.le_of_ble_eq_true rfl) (Nat.le_of_ble_eq_true rfl) (Nat.le_of_ble_eq_true rfl) hl.1 dX9_valueOn_95 (fun r3 H locs hgr3 hh hm hs => ?_)
      refine W.eq (g2 := F0 m 98 ls [.int r3]) rfl ?_
      refine lv_if_eq (tgt := 118) C.1 C.2.1 dX9_valueOn_98 (by decide) (fun c6 => ?_) (fun c6 => ?_)
      · rw [if_pos c6] at hh
        refine lv_iload C.1 C.2.1 dX9_valueOn_118 (lv_at hl 0 rfl) ?_
        exact r_iretP hQ C hr hm hs hh dX9_valueOn_120
      · rw [if_neg c6] at hh
        refine r_aload_n C.1 C.2.1 dX9_valueOn_101 rfl (lv_at hl 1 rfl) ?_
        refine r_getR C hm flX9_33 dX9_valueOn_102 hh (fun x4 _ hh => ?_)
        refine lv_iload C.1 C.2.1 dX9_valueOn_105 (lv_at hl 4 rfl) ?_
        refine lv_sipush (v := 360) C.1 C.2.1 dX9_valueOn_107 (by decide) ?_
        refine lv_imul C.1 C.2.1 dX9_valueOn_110 ?_
        refine lv_iload C.1 C.2.1 dX9_valueOn_111 (lv_at hl 5 rfl) ?_
        refine lv_iadd C.1 C.2.1 dX9_valueOn_113 ?_
        refine r_ald C hm dX9_valueOn_114 hh (fun x5 _ hh => ?_)
        refine lv_goto (tgt := 120) C.1 C.2.1 dX9_valueOn_115 (by decide) ?_
        exact r_iretP hQ C hr hm hs hh dX9_valueOn_120
  unfold mX9_valueOn at hh
  refine r_aload_n C.1 C.2.1 dX9_valueOn_0 rfl (lv_at hl 0 rfl) ?_
  refine lv_iload_n C.1 C.2.1 dX9_valueOn_1 rfl (lv_at hl 1 rfl) ?_
  refine r_cV C X hm hs mlX9_60 mvX9_60 hh (vv := fun r => some (.int r)) (hp := fun r => h) (fun b r hg => c_X9_has l G h b _ r hg) rfl rfl (Nat.le_of_ble_eq_true rfl) (Nat.le_of_ble_eq_true rfl) (Nat.le_of_ble_eq_true rfl) hl.1 dX9_valueOn_2 (fun b9 r8 H locs hgr8 hh hm hs => ?_)
  refine W.eq (g2 := F0 m 5 ls [.int r8]) rfl ?_
  refine lv_if_eq (tgt := 39) C.1 C.2.1 dX9_valueOn_5 (by decide) (fun c27 => ?_) (fun c27 => ?_)
  · rw [if_pos c27] at hh
    refine lv_bipush (v := (-2)) C.1 C.2.1 dX9_valueOn_39 (by decide) ?_
    exact r_iretP hQ C hr hm hs hh dX9_valueOn_41
  · rw [if_neg c27] at hh
    refine r_aload_n C.1 C.2.1 dX9_valueOn_8 rfl (lv_at hl 0 rfl) ?_
    refine r_getR C hm flX9_39 dX9_valueOn_9 hh (fun x10 _ hh => ?_)
    refine lv_iload_n C.1 C.2.1 dX9_valueOn_12 rfl (lv_at hl 2 rfl) ?_
    refine r_cV C X hm hs mlX9_68 mvX9_68 hh (vv := fun r => some (.int r)) (hp := fun r => h) (fun b r hg => c_X1_hasField l G h b _ r hg) rfl rfl (Nat.le_of_ble_eq_true rfl) (Nat.le_of_ble_eq_true rfl) (Nat.le_of_ble_eq_true rfl) hl.1 dX9_valueOn_13 (fun b12 r11 H locs hgr11 hh hm hs => ?_)
    refine W.eq (g2 := F0 m 16 ls [.int r11]) rfl ?_
    refine lv_if_eq (tgt := 39) C.1 C.2.1 dX9_valueOn_16 (by decide) (fun c26 => ?_) (fun c26 => ?_)
    · rw [if_pos c26] at hh
      refine lv_bipush (v := (-2)) C.1 C.2.1 dX9_valueOn_39 (by decide) ?_
      exact r_iretP hQ C hr hm hs hh dX9_valueOn_41
    · rw [if_neg c26] at hh
      refine lv_iload C.1 C.2.1 dX9_valueOn_19 (lv_at hl 4 rfl) ?_
      refine lv_iconst (v := 0) C.1 C.2.1 dX9_valueOn_21 (by decide) ?_
      refine lv_iconst (v := 4) C.1 C.2.1 dX9_valueOn_22 (by decide) ?_
      refine r_cS C X hm hs mlX9_73 msX9_73 hh (vv := fun r => some (.int r)) (hp := fun r => h) (fun r hg => c_X11_isWithin l G h _ _ _ r hg) rfl rfl (Nat.le_of_ble_eq_true rfl) (Nat.le_of_ble_eq_true rfl) (Nat.le_of_ble_eq_true rfl) hl.1 dX9_valueOn_23 (fun r13 H locs hgr13 hh hm hs => ?_)
      refine W.eq (g2 := F0 m 26 ls [.int r13]) rfl ?_
      refine lv_if_eq (tgt := 39) C.1 C.2.1 dX9_valueOn_26 (by decide) (fun c25 => ?_) (fun c25 => ?_)
      · rw [if_pos c25] at hh
        refine lv_bipush (v := (-2)) C.1 C.2.1 dX9_valueOn_39 (by decide) ?_
        exact r_iretP hQ C hr hm hs hh dX9_valueOn_41
      · rw [if_neg c25] at hh
        refine lv_iload_n C.1 C.2.1 dX9_valueOn_29 rfl (lv_at hl 3 rfl) ?_
        refine r_aload_n C.1 C.2.1 dX9_valueOn_30 rfl (lv_at hl 0 rfl) ?_
        refine r_getR C hm flX9_9 dX9_valueOn_31 hh (fun x14 _ hh => ?_)
        refine lv_iload_n C.1 C.2.1 dX9_valueOn_34 rfl (lv_at hl 1 rfl) ?_
        refine r_ald C hm dX9_valueOn_35 hh (fun x15 _ hh => ?_)
        refine lv_icmp_ge (tgt := 42) C.1 C.2.1 dX9_valueOn_36 (by decide) (fun c24 => ?_) (fun c24 => ?_)
        · rw [if_pos c24] at hh
          refine lv_iload_n C.1 C.2.1 dX9_valueOn_42 rfl (lv_at hl 1 rfl) ?_
          refine lv_bipush (v := 6) C.1 C.2.1 dX9_valueOn_43 (by decide) ?_
          refine lv_imul C.1 C.2.1 dX9_valueOn_45 ?_
          refine lv_iload_n C.1 C.2.1 dX9_valueOn_46 rfl (lv_at hl 2 rfl) ?_
          refine lv_iadd C.1 C.2.1 dX9_valueOn_47 ?_
          refine lv_istore (i := 5) (lv' := [(5, .int ((a1 * 6) + a2)), (0, va_rf (some a0)), (1, .int a1), (2, .int a2), (3, .int a3), (4, .int a4)]) C.1 C.2.1 dX9_valueOn_48 hl (by decide) rfl (fun ls hl => ?_)
          refine r_aload_n C.1 C.2.1 dX9_valueOn_50 rfl (lv_at hl 1 rfl) ?_
          refine r_getR C hm flX9_18 dX9_valueOn_51 hh (fun x16 _ hh => ?_)
          refine lv_iload_n C.1 C.2.1 dX9_valueOn_54 rfl (lv_at hl 2 rfl) ?_
          refine r_ald C hm dX9_valueOn_55 hh (fun x17 _ hh => ?_)
          refine lv_iload_n C.1 C.2.1 dX9_valueOn_56 rfl (lv_at hl 4 rfl) ?_
          refine r_cS C X hm hs mlX9_64 msX9_64 hh (vv := fun r => some (.int r)) (hp := fun r => h) (fun r hg => c_X9_isSince l G h _ _ r hg) rfl rfl (Nat.le_of_ble_eq_true rfl) (Nat.le_of_ble_eq_true rfl) (Nat.le_of_ble_eq_true rfl) hl.1 dX9_valueOn_57 (fun r18 H locs hgr18 hh hm hs => ?_)
          refine W.eq (g2 := F0 m 60 ls [.int r18]) rfl ?_
          refine lv_if_eq (tgt := 73) C.1 C.2.1 dX9_valueOn_60 (by decide) (fun c23 => ?_) (fun c23 => ?_)
          · rw [if_pos c23] at hh
            refine r_aload_n C.1 C.2.1 dX9_valueOn_73 rfl (lv_at hl 1 rfl) ?_
            refine r_getR C hm flX9_27 dX9_valueOn_74 hh (fun x19 _ hh => ?_)
            refine lv_iload C.1 C.2.1 dX9_valueOn_77 (lv_at hl 0 rfl) ?_
            refine r_ald C hm dX9_valueOn_79 hh (fun x20 _ hh => ?_)
            exact B80 _ _ _ _ _ _ _ _ _  hm hs (lv_sub hl [1, 2, 4, 5, 0] rfl) hh
          · rw [if_neg c23] at hh
            refine r_aload_n C.1 C.2.1 dX9_valueOn_63 rfl (lv_at hl 1 rfl) ?_
            refine r_getR C hm flX9_30 dX9_valueOn_64 hh (fun x21 _ hh => ?_)
            refine lv_iload C.1 C.2.1 dX9_valueOn_67 (lv_at hl 0 rfl) ?_
            refine r_ald C hm dX9_valueOn_69 hh (fun x22 _ hh => ?_)
            refine lv_goto (tgt := 80) C.1 C.2.1 dX9_valueOn_70 (by decide) ?_
            exact B80 _ _ _ _ _ _ _ _ _  hm hs (lv_sub hl [1, 2, 4, 5, 0] rfl) hh
        · rw [if_neg c24] at hh
          refine lv_bipush (v := (-2)) C.1 C.2.1 dX9_valueOn_39 (by decide) ?_
          exact r_iretP hQ C hr hm hs hh dX9_valueOn_41
def mX9_load_l3 : Nat → MHp → Nat → Int32 → Int32 → Int32 → Option Nat → Int32 → Option (MHp)
  | 0, _, _, _, _, _, _, _ => none
  | n + 1, h, a0, v1, v2, v3, v4, v5 => (gN 20 h v4).bind fun x1 => (if x1 ≤ v5 then some h else (rcv 10 h (some a0)).bind fun b3 => (mX9_valueOn h b3 v1 v5 v2 v3).bind fun r2 => (pAI 20 h v4 v5 r2).bind fun h4 => mX9_load_l3 n h4 a0 v1 v2 v3 v4 (v5 + 1))
def mX9_load (h : MHp) (a0 : Nat) (a1 : Int32) (a2 : Int32) (a3 : Int32) (a4 : Option Nat) : Option (MHp) := mX9_load_l3 FUEL h a0 a1 a2 a3 a4 0
set_option maxRecDepth 100000 in
set_option maxHeartbeats 4000000 in
theorem c_X9_load (l : Launch) (G : Env0) (h : MHp) (a0 : Nat) (a1 : Int32) (a2 : Int32) (a3 : Int32) (a4 : Option Nat) (res : MHp) (hh : mX9_load h a0 a1 a2 a3 a4 = some res) : MG l yX9_load cX9_load 6 none 2 48 0 0 G h [.ref a0, .int a1, .int a2, .int a3, va_rf a4] (none) (res) := by
  refine MG_of (own := RX9) (plainFor_of_name (by decide)) rfl (by simp [lg_sl, va_cat, vc_i, vc_l, vc_r]) ?_
  intro p e s m args below meth c Q ls hQ C X hin hm hs hl hr
  have hl : lv_has ls 6 [(0, .ref a0), (1, .int a1), (2, .int a2), (3, .int a3), (4, va_rf a4)] := by simpa [lv_args, va_cat, vc_i, vc_l, vc_r] using hl
  have hl : lv_has ls 6 [(0, va_rf (some a0)), (1, .int a1), (2, .int a2), (3, .int a3), (4, va_rf a4)] := hl
  have B3 : ∀ n : Nat, ∀ (h : MHp) (H : Heap) (locs : List Loc) (ls : Array Slot) (a0 : Nat) (v1 : Int32) (v2 : Int32) (v3 : Int32) (v4 : Option Nat) (v5 : Int32) , mHp (gD G) (gC G) (gB G) h H → va_S (fun q => gB G ≤ q) s.heap H locs → lv_has ls 6 [(0, va_rf (some a0)), (1, .int v1), (2, .int v2), (3, .int v3), (4, va_rf v4), (5, .int v5)] → mX9_load_l3 n h a0 v1 v2 v3 v4 v5 = some res → W p l e ({ frames := 2, cells := 0, slots := 0, locals := 48 }) s m args below meth c H locs 0 0 Q (F0 m 3 ls []) := by
    intro n
    induction n with
    | zero => intro h H locs ls a0 v1 v2 v3 v4 v5 hm hs hl hh; cases hh
    | succ n ih =>
      intro h H locs ls a0 v1 v2 v3 v4 v5 hm hs hl hh
      unfold mX9_load_l3 at hh
      refine lv_iload C.1 C.2.1 dX9_load_3 (lv_at hl 5 rfl) ?_
      refine r_aload C.1 C.2.1 dX9_load_5 (lv_at hl 4 rfl) ?_
      refine r_len C hm dX9_load_7 (kd := 20) (by decide) hh (fun x1 _ hh => ?_)
      refine lv_icmp_ge (tgt := 31) C.1 C.2.1 dX9_load_8 (by decide) (fun c5 => ?_) (fun c5 => ?_)
      · rw [if_pos c5] at hh
        exact r_vretW hQ C hr hm hs hh dX9_load_31
      · rw [if_neg c5] at hh
        refine r_aload C.1 C.2.1 dX9_load_11 (lv_at hl 4 rfl) ?_
        refine lv_iload C.1 C.2.1 dX9_load_13 (lv_at hl 5 rfl) ?_
        refine r_aload_n C.1 C.2.1 dX9_load_15 rfl (lv_at hl 0 rfl) ?_
        refine lv_iload_n C.1 C.2.1 dX9_load_16 rfl (lv_at hl 1 rfl) ?_
        refine lv_iload C.1 C.2.1 dX9_load_17 (lv_at hl 5 rfl) ?_
        refine lv_iload_n C.1 C.2.1 dX9_load_19 rfl (lv_at hl 2 rfl) ?_
        refine lv_iload_n C.1 C.2.1 dX9_load_20 rfl (lv_at hl 3 rfl) ?_
        refine r_cV C X hm hs mlX9_77 mvX9_77 hh (vv := fun r => some (.int r)) (hp := fun r => h) (fun b r hg => c_X9_valueOn l G h b _ _ _ _ r hg) rfl rfl (by simp [va_cat, vc_i, vc_l, vc_r]) (Nat.le_of_ble_eq_true rfl) (Nat.le_of_ble_eq_true rfl) hl.1 dX9_load_21 (fun b3 r2 H locs hgr2 hh hm hs => ?_)
        refine W.eq (g2 := F0 m 24 ls [.int r2, .int v5, va_rf v4]) rfl ?_
        refine r_ast C hm hs dX9_load_24 hh (fun h4 H locs _ hh hm hs => ?_)
        refine lv_iinc (v := (v5 + 1)) (lv' := [(5, .int (v5 + 1)), (0, va_rf (some a0)), (1, .int v1), (2, .int v2), (3, .int v3), (4, va_rf v4)]) C.1 C.2.1 dX9_load_25 hl (k := 5) rfl rfl (by decide) (by simp [va_cat, vc_i, vc_l, vc_r]) (fun ls hl => ?_)
        refine lv_goto (tgt := 3) C.1 C.2.1 dX9_load_28 (by decide) ?_
        exact ih _ _ _ _ _ _ _ _ _ _  hm hs (lv_sub hl [1, 2, 3, 4, 5, 0] rfl) hh
  unfold mX9_load at hh
  refine lv_iconst (v := 0) C.1 C.2.1 dX9_load_0 (by decide) ?_
  refine lv_istore (i := 5) (lv' := [(5, .int 0), (0, va_rf (some a0)), (1, .int a1), (2, .int a2), (3, .int a3), (4, va_rf a4)]) C.1 C.2.1 dX9_load_1 hl (by decide) (by simp [va_cat, vc_i, vc_l, vc_r]) (fun ls hl => ?_)
  exact B3 FUEL _ _ _ _ _ _ _ _ _ _  hm hs (lv_sub hl [1, 2, 3, 4, 5, 0] rfl) hh
def mX9_loadNow (h : MHp) (a0 : Nat) (a1 : Int32) : Option (MHp) := (gI 10 7 h (some a0)).bind fun x1 => (gR 10 11 h (some a0)).bind fun x2 => (rcv 10 h (some a0)).bind fun b4 => (mX9_load h b4 a1 x1 0 x2).bind fun r3 => some r3
set_option maxRecDepth 100000 in
set_option maxHeartbeats 4000000 in
theorem c_X9_loadNow (l : Launch) (G : Env0) (h : MHp) (a0 : Nat) (a1 : Int32) (res : MHp) (hh : mX9_loadNow h a0 a1 = some res) : MG l yX9_loadNow cX9_loadNow 2 none 3 73 0 0 G h [.ref a0, .int a1] (none) (res) := by
  refine MG_of (own := RX9) (plainFor_of_name (by decide)) rfl (Nat.le_of_ble_eq_true rfl) ?_
  intro p e s m args below meth c Q ls hQ C X hin hm hs hl hr
  have hl : lv_has ls 2 [(0, va_rf (some a0)), (1, .int a1)] := hl
  unfold mX9_loadNow at hh
  refine r_aload_n C.1 C.2.1 dX9_loadNow_0 rfl (lv_at hl 0 rfl) ?_
  refine lv_iload_n C.1 C.2.1 dX9_loadNow_1 rfl (lv_at hl 1 rfl) ?_
  refine r_aload_n C.1 C.2.1 dX9_loadNow_2 rfl (lv_at hl 0 rfl) ?_
  refine r_getI C hm flX9_47 dX9_loadNow_3 hh (fun x1 _ hh => ?_)
  refine lv_iconst (v := 0) C.1 C.2.1 dX9_loadNow_6 (by decide) ?_
  refine r_aload_n C.1 C.2.1 dX9_loadNow_7 rfl (lv_at hl 0 rfl) ?_
  refine r_getR C hm flX9_36 dX9_loadNow_8 hh (fun x2 _ hh => ?_)
  refine r_cV C X hm hs mlX9_81 mvX9_81 hh (vv := fun r => none) (hp := fun r => r) (fun b r hg => c_X9_load l G h b _ _ _ _ r hg) rfl rfl (Nat.le_of_ble_eq_true rfl) (Nat.le_of_ble_eq_true rfl) (Nat.le_of_ble_eq_true rfl) hl.1 dX9_loadNow_11 (fun b4 r3 H locs hgr3 hh hm hs => ?_)
  refine W.eq (g2 := F0 m 14 ls []) rfl ?_
  exact r_vretW hQ C hr hm hs hh dX9_loadNow_14
def mX9_ruleThatHolds (h : MHp) (a0 : Nat) (a1 : Int32) : Option (Int32 × MHp) := (rcv 10 h (some a0)).bind fun b2 => (mX9_loadNow h b2 a1).bind fun r1 => (gR 10 5 r1 (some a0)).bind fun x3 => (gR 10 11 r1 (some a0)).bind fun x4 => (rcv 2 r1 x3).bind fun b6 => (mX1_ruleThatHolds r1 b6 x4).bind fun r5 => some (r5, r1)
set_option maxRecDepth 100000 in
set_option maxHeartbeats 4000000 in
theorem c_X9_ruleThatHolds (l : Launch) (G : Env0) (h : MHp) (a0 : Nat) (a1 : Int32) (res : Int32 × MHp) (hh : mX9_ruleThatHolds h a0 a1 = some res) : MG l yX9_ruleThatHolds cX9_ruleThatHolds 2 (some .int) 4 94 0 0 G h [.ref a0, .int a1] (some (.int res.1)) (res.2) := by
  refine MG_of (own := RX9) (plainFor_of_name (by decide)) rfl (Nat.le_of_ble_eq_true rfl) ?_
  intro p e s m args below meth c Q ls hQ C X hin hm hs hl hr
  have hl : lv_has ls 2 [(0, va_rf (some a0)), (1, .int a1)] := hl
  unfold mX9_ruleThatHolds at hh
  refine r_aload_n C.1 C.2.1 dX9_ruleThatHolds_0 rfl (lv_at hl 0 rfl) ?_
  refine lv_iload_n C.1 C.2.1 dX9_ruleThatHolds_1 rfl (lv_at hl 1 rfl) ?_
  refine r_cV C X hm hs mlX9_85 mvX9_85 hh (vv := fun r => none) (hp := fun r => r) (fun b r hg => c_X9_loadNow l G h b _ r hg) rfl rfl (Nat.le_of_ble_eq_true rfl) (Nat.le_of_ble_eq_true rfl) (Nat.le_of_ble_eq_true rfl) hl.1 dX9_ruleThatHolds_2 (fun b2 r1 H locs hgr1 hh hm hs => ?_)
  refine W.eq (g2 := F0 m 5 ls []) rfl ?_
  refine r_aload_n C.1 C.2.1 dX9_ruleThatHolds_5 rfl (lv_at hl 0 rfl) ?_
  refine r_getR C hm flX9_39 dX9_ruleThatHolds_6 hh (fun x3 _ hh => ?_)
  refine r_aload_n C.1 C.2.1 dX9_ruleThatHolds_9 rfl (lv_at hl 0 rfl) ?_
  refine r_getR C hm flX9_36 dX9_ruleThatHolds_10 hh (fun x4 _ hh => ?_)
  refine r_cV C X hm hs mlX9_89 mvX9_89 hh (vv := fun r => some (.int r)) (hp := fun r => r1) (fun b r hg => c_X1_ruleThatHolds l G r1 b _ r hg) rfl rfl (Nat.le_of_ble_eq_true rfl) (Nat.le_of_ble_eq_true rfl) (Nat.le_of_ble_eq_true rfl) hl.1 dX9_ruleThatHolds_13 (fun b6 r5 H locs hgr5 hh hm hs => ?_)
  refine W.eq (g2 := F0 m 16 ls [.int r5]) rfl ?_
  exact r_iretW hQ C hr hm hs hh dX9_ruleThatHolds_16
def mX9_countGaps (h : MHp) (a0 : Nat) (a1 : Int32) : Option (Int32 × MHp) := (rcv 10 h (some a0)).bind fun b2 => (mX9_loadNow h b2 a1).bind fun r1 => (gR 10 5 r1 (some a0)).bind fun x3 => (gR 10 11 r1 (some a0)).bind fun x4 => (rcv 2 r1 x3).bind fun b6 => (mX1_gapsOf r1 b6 x4).bind fun r5 => (mJ6_bitCount_0f7a4 r1 r5).bind fun r7 => some (r7, r1)
set_option maxRecDepth 100000 in
set_option maxHeartbeats 4000000 in
theorem c_X9_countGaps (l : Launch) (G : Env0) (h : MHp) (a0 : Nat) (a1 : Int32) (res : Int32 × MHp) (hh : mX9_countGaps h a0 a1 = some res) : MG l yX9_countGaps cX9_countGaps 2 (some .int) 4 94 0 0 G h [.ref a0, .int a1] (some (.int res.1)) (res.2) := by
  refine MG_of (own := RX9) (plainFor_of_name (by decide)) rfl (Nat.le_of_ble_eq_true rfl) ?_
  intro p e s m args below meth c Q ls hQ C X hin hm hs hl hr
  have hl : lv_has ls 2 [(0, va_rf (some a0)), (1, .int a1)] := hl
  unfold mX9_countGaps at hh
  refine r_aload_n C.1 C.2.1 dX9_countGaps_0 rfl (lv_at hl 0 rfl) ?_
  refine lv_iload_n C.1 C.2.1 dX9_countGaps_1 rfl (lv_at hl 1 rfl) ?_
  refine r_cV C X hm hs mlX9_85 mvX9_85 hh (vv := fun r => none) (hp := fun r => r) (fun b r hg => c_X9_loadNow l G h b _ r hg) rfl rfl (Nat.le_of_ble_eq_true rfl) (Nat.le_of_ble_eq_true rfl) (Nat.le_of_ble_eq_true rfl) hl.1 dX9_countGaps_2 (fun b2 r1 H locs hgr1 hh hm hs => ?_)
  refine W.eq (g2 := F0 m 5 ls []) rfl ?_
  refine r_aload_n C.1 C.2.1 dX9_countGaps_5 rfl (lv_at hl 0 rfl) ?_
  refine r_getR C hm flX9_39 dX9_countGaps_6 hh (fun x3 _ hh => ?_)
  refine r_aload_n C.1 C.2.1 dX9_countGaps_9 rfl (lv_at hl 0 rfl) ?_
  refine r_getR C hm flX9_36 dX9_countGaps_10 hh (fun x4 _ hh => ?_)
  refine r_cV C X hm hs mlX9_93 mvX9_93 hh (vv := fun r => some (.int r)) (hp := fun r => r1) (fun b r hg => c_X1_gapsOf l G r1 b _ r hg) rfl rfl (Nat.le_of_ble_eq_true rfl) (Nat.le_of_ble_eq_true rfl) (Nat.le_of_ble_eq_true rfl) hl.1 dX9_countGaps_13 (fun b6 r5 H locs hgr5 hh hm hs => ?_)
  refine W.eq (g2 := F0 m 16 ls [.int r5]) rfl ?_
  refine r_cS C X hm hs mlX9_96 msX9_96 hh (vv := fun r => some (.int r)) (hp := fun r => r1) (fun r hg => c_J6_bitCount_0f7a4 l G r1 _ r hg) rfl rfl (Nat.le_of_ble_eq_true rfl) (Nat.le_of_ble_eq_true rfl) (Nat.le_of_ble_eq_true rfl) hl.1 dX9_countGaps_16 (fun r7 H locs hgr7 hh hm hs => ?_)
  refine W.eq (g2 := F0 m 19 ls [.int r7]) rfl ?_
  exact r_iretW hQ C hr hm hs hh dX9_countGaps_19
def mX9_canBeMended (h : MHp) (a0 : Nat) (a1 : Int32) : Option (Int32 × MHp) := (rcv 10 h (some a0)).bind fun b2 => (mX9_has h b2 a1).bind fun r1 => (if r1 = 0 then some (0, h) else (rcv 10 h (some a0)).bind fun b4 => (mX9_ruleThatHolds h b4 a1).bind fun r3 => (if r3.1 = (-2) then some (0, r3.2) else (gR 10 1 r3.2 (some a0)).bind fun x5 => (gAI 20 r3.2 x5 a1).bind fun x6 => (if x6 = (-2) then (gR 10 2 r3.2 (some a0)).bind fun x7 => (gAI 20 r3.2 x7 a1).bind fun x8 => (if x8 = (-2) then some (1, r3.2) else some (0, r3.2)) else some (0, r3.2))))
set_option maxRecDepth 100000 in
set_option maxHeartbeats 4000000 in
theorem c_X9_canBeMended (l : Launch) (G : Env0) (h : MHp) (a0 : Nat) (a1 : Int32) (res : Int32 × MHp) (hh : mX9_canBeMended h a0 a1 = some res) : MG l yX9_canBeMended cX9_canBeMended 2 (some .boolean) 5 115 0 0 G h [.ref a0, .int a1] (some (.int res.1)) (res.2) := by
  refine MG_of (own := RX9) (plainFor_of_name (by decide)) rfl (Nat.le_of_ble_eq_true rfl) ?_
  intro p e s m args below meth c Q ls hQ C X hin hm hs hl hr
  have hl : lv_has ls 2 [(0, va_rf (some a0)), (1, .int a1)] := hl
  unfold mX9_canBeMended at hh
  refine r_aload_n C.1 C.2.1 dX9_canBeMended_0 rfl (lv_at hl 0 rfl) ?_
  refine lv_iload_n C.1 C.2.1 dX9_canBeMended_1 rfl (lv_at hl 1 rfl) ?_
  refine r_cV C X hm hs mlX9_60 mvX9_60 hh (vv := fun r => some (.int r)) (hp := fun r => h) (fun b r hg => c_X9_has l G h b _ r hg) rfl rfl (Nat.le_of_ble_eq_true rfl) (Nat.le_of_ble_eq_true rfl) (Nat.le_of_ble_eq_true rfl) hl.1 dX9_canBeMended_2 (fun b2 r1 H locs hgr1 hh hm hs => ?_)
  refine W.eq (g2 := F0 m 5 ls [.int r1]) rfl ?_
  refine lv_if_eq (tgt := 44) C.1 C.2.1 dX9_canBeMended_5 (by decide) (fun c12 => ?_) (fun c12 => ?_)
  · rw [if_pos c12] at hh
    refine lv_iconst (v := 0) C.1 C.2.1 dX9_canBeMended_44 (by decide) ?_
    exact r_bretW hQ C hr hm hs (by decide) hh dX9_canBeMended_45
  · rw [if_neg c12] at hh
    refine r_aload_n C.1 C.2.1 dX9_canBeMended_8 rfl (lv_at hl 0 rfl) ?_
    refine lv_iload_n C.1 C.2.1 dX9_canBeMended_9 rfl (lv_at hl 1 rfl) ?_
    refine r_cV C X hm hs mlX9_102 mvX9_102 hh (vv := fun r => some (.int r.1)) (hp := fun r => r.2) (fun b r hg => c_X9_ruleThatHolds l G h b _ r hg) rfl rfl (Nat.le_of_ble_eq_true rfl) (Nat.le_of_ble_eq_true rfl) (Nat.le_of_ble_eq_true rfl) hl.1 dX9_canBeMended_10 (fun b4 r3 H locs hgr3 hh hm hs => ?_)
    refine W.eq (g2 := F0 m 13 ls [.int r3.1]) rfl ?_
    refine lv_bipush (v := (-2)) C.1 C.2.1 dX9_canBeMended_13 (by decide) ?_
    refine lv_icmp_eq (tgt := 44) C.1 C.2.1 dX9_canBeMended_15 (by decide) (fun c11 => ?_) (fun c11 => ?_)
    · rw [if_pos c11] at hh
      refine lv_iconst (v := 0) C.1 C.2.1 dX9_canBeMended_44 (by decide) ?_
      exact r_bretW hQ C hr hm hs (by decide) hh dX9_canBeMended_45
    · rw [if_neg c11] at hh
      refine r_aload_n C.1 C.2.1 dX9_canBeMended_18 rfl (lv_at hl 0 rfl) ?_
      refine r_getR C hm flX9_15 dX9_canBeMended_19 hh (fun x5 _ hh => ?_)
      refine lv_iload_n C.1 C.2.1 dX9_canBeMended_22 rfl (lv_at hl 1 rfl) ?_
      refine r_ald C hm dX9_canBeMended_23 hh (fun x6 _ hh => ?_)
      refine lv_bipush (v := (-2)) C.1 C.2.1 dX9_canBeMended_24 (by decide) ?_
      refine lv_icmp_ne (tgt := 44) C.1 C.2.1 dX9_canBeMended_26 (by decide) (fun c10 => ?_) (fun c10 => ?_)
      · rw [if_neg c10] at hh
        refine lv_iconst (v := 0) C.1 C.2.1 dX9_canBeMended_44 (by decide) ?_
        exact r_bretW hQ C hr hm hs (by decide) hh dX9_canBeMended_45
      · rw [if_pos c10] at hh
        refine r_aload_n C.1 C.2.1 dX9_canBeMended_29 rfl (lv_at hl 0 rfl) ?_
        refine r_getR C hm flX9_18 dX9_canBeMended_30 hh (fun x7 _ hh => ?_)
        refine lv_iload_n C.1 C.2.1 dX9_canBeMended_33 rfl (lv_at hl 1 rfl) ?_
        refine r_ald C hm dX9_canBeMended_34 hh (fun x8 _ hh => ?_)
        refine lv_bipush (v := (-2)) C.1 C.2.1 dX9_canBeMended_35 (by decide) ?_
        refine lv_icmp_ne (tgt := 44) C.1 C.2.1 dX9_canBeMended_37 (by decide) (fun c9 => ?_) (fun c9 => ?_)
        · rw [if_neg c9] at hh
          refine lv_iconst (v := 0) C.1 C.2.1 dX9_canBeMended_44 (by decide) ?_
          exact r_bretW hQ C hr hm hs (by decide) hh dX9_canBeMended_45
        · rw [if_pos c9] at hh
          refine lv_iconst (v := 1) C.1 C.2.1 dX9_canBeMended_40 (by decide) ?_
          refine lv_goto (tgt := 45) C.1 C.2.1 dX9_canBeMended_41 (by decide) ?_
          exact r_bretW hQ C hr hm hs (by decide) hh dX9_canBeMended_45
def mX9_canBeFilled (h : MHp) (a0 : Nat) (a1 : Int32) : Option (Int32 × MHp) := (rcv 10 h (some a0)).bind fun b2 => (mX9_has h b2 a1).bind fun r1 => (if r1 = 0 then some (0, h) else (rcv 10 h (some a0)).bind fun b4 => (mX9_countGaps h b4 a1).bind fun r3 => (if r3.1 ≤ 0 then some (0, r3.2) else (rcv 10 r3.2 (some a0)).bind fun b6 => (mX9_ruleThatHolds r3.2 b6 a1).bind fun r5 => (if r5.1 = (-2) then (gR 10 1 r5.2 (some a0)).bind fun x7 => (gAI 20 r5.2 x7 a1).bind fun x8 => (if x8 = (-2) then (gR 10 3 r5.2 (some a0)).bind fun x9 => (gAI 20 r5.2 x9 a1).bind fun x10 => (if x10 = (-2) then some (1, r5.2) else some (0, r5.2)) else some (0, r5.2)) else some (0, r5.2))))
set_option maxRecDepth 100000 in
set_option maxHeartbeats 4000000 in
theorem c_X9_canBeFilled (l : Launch) (G : Env0) (h : MHp) (a0 : Nat) (a1 : Int32) (res : Int32 × MHp) (hh : mX9_canBeFilled h a0 a1 = some res) : MG l yX9_canBeFilled cX9_canBeFilled 2 (some .boolean) 5 115 0 0 G h [.ref a0, .int a1] (some (.int res.1)) (res.2) := by
  refine MG_of (own := RX9) (plainFor_of_name (by decide)) rfl (Nat.le_of_ble_eq_true rfl) ?_
  intro p e s m args below meth c Q ls hQ C X hin hm hs hl hr
  have hl : lv_has ls 2 [(0, va_rf (some a0)), (1, .int a1)] := hl
  unfold mX9_canBeFilled at hh
  refine r_aload_n C.1 C.2.1 dX9_canBeFilled_0 rfl (lv_at hl 0 rfl) ?_
  refine lv_iload_n C.1 C.2.1 dX9_canBeFilled_1 rfl (lv_at hl 1 rfl) ?_
  refine r_cV C X hm hs mlX9_60 mvX9_60 hh (vv := fun r => some (.int r)) (hp := fun r => h) (fun b r hg => c_X9_has l G h b _ r hg) rfl rfl (Nat.le_of_ble_eq_true rfl) (Nat.le_of_ble_eq_true rfl) (Nat.le_of_ble_eq_true rfl) hl.1 dX9_canBeFilled_2 (fun b2 r1 H locs hgr1 hh hm hs => ?_)
  refine W.eq (g2 := F0 m 5 ls [.int r1]) rfl ?_
  refine lv_if_eq (tgt := 52) C.1 C.2.1 dX9_canBeFilled_5 (by decide) (fun c15 => ?_) (fun c15 => ?_)
  · rw [if_pos c15] at hh
    refine lv_iconst (v := 0) C.1 C.2.1 dX9_canBeFilled_52 (by decide) ?_
    exact r_bretW hQ C hr hm hs (by decide) hh dX9_canBeFilled_53
  · rw [if_neg c15] at hh
    refine r_aload_n C.1 C.2.1 dX9_canBeFilled_8 rfl (lv_at hl 0 rfl) ?_
    refine lv_iload_n C.1 C.2.1 dX9_canBeFilled_9 rfl (lv_at hl 1 rfl) ?_
    refine r_cV C X hm hs mlX9_104 mvX9_104 hh (vv := fun r => some (.int r.1)) (hp := fun r => r.2) (fun b r hg => c_X9_countGaps l G h b _ r hg) rfl rfl (Nat.le_of_ble_eq_true rfl) (Nat.le_of_ble_eq_true rfl) (Nat.le_of_ble_eq_true rfl) hl.1 dX9_canBeFilled_10 (fun b4 r3 H locs hgr3 hh hm hs => ?_)
    refine W.eq (g2 := F0 m 13 ls [.int r3.1]) rfl ?_
    refine lv_if_le (tgt := 52) C.1 C.2.1 dX9_canBeFilled_13 (by decide) (fun c14 => ?_) (fun c14 => ?_)
    · rw [if_pos c14] at hh
      refine lv_iconst (v := 0) C.1 C.2.1 dX9_canBeFilled_52 (by decide) ?_
      exact r_bretW hQ C hr hm hs (by decide) hh dX9_canBeFilled_53
    · rw [if_neg c14] at hh
      refine r_aload_n C.1 C.2.1 dX9_canBeFilled_16 rfl (lv_at hl 0 rfl) ?_
      refine lv_iload_n C.1 C.2.1 dX9_canBeFilled_17 rfl (lv_at hl 1 rfl) ?_
      refine r_cV C X hm hs mlX9_102 mvX9_102 hh (vv := fun r => some (.int r.1)) (hp := fun r => r.2) (fun b r hg => c_X9_ruleThatHolds l G r3.2 b _ r hg) rfl rfl (Nat.le_of_ble_eq_true rfl) (Nat.le_of_ble_eq_true rfl) (Nat.le_of_ble_eq_true rfl) hl.1 dX9_canBeFilled_18 (fun b6 r5 H locs hgr5 hh hm hs => ?_)
      refine W.eq (g2 := F0 m 21 ls [.int r5.1]) rfl ?_
      refine lv_bipush (v := (-2)) C.1 C.2.1 dX9_canBeFilled_21 (by decide) ?_
      refine lv_icmp_ne (tgt := 52) C.1 C.2.1 dX9_canBeFilled_23 (by decide) (fun c13 => ?_) (fun c13 => ?_)
      · rw [if_neg c13] at hh
        refine lv_iconst (v := 0) C.1 C.2.1 dX9_canBeFilled_52 (by decide) ?_
        exact r_bretW hQ C hr hm hs (by decide) hh dX9_canBeFilled_53
      · rw [if_pos c13] at hh
        refine r_aload_n C.1 C.2.1 dX9_canBeFilled_26 rfl (lv_at hl 0 rfl) ?_
        refine r_getR C hm flX9_15 dX9_canBeFilled_27 hh (fun x7 _ hh => ?_)
        refine lv_iload_n C.1 C.2.1 dX9_canBeFilled_30 rfl (lv_at hl 1 rfl) ?_
        refine r_ald C hm dX9_canBeFilled_31 hh (fun x8 _ hh => ?_)
        refine lv_bipush (v := (-2)) C.1 C.2.1 dX9_canBeFilled_32 (by decide) ?_
        refine lv_icmp_ne (tgt := 52) C.1 C.2.1 dX9_canBeFilled_34 (by decide) (fun c12 => ?_) (fun c12 => ?_)
        · rw [if_neg c12] at hh
          refine lv_iconst (v := 0) C.1 C.2.1 dX9_canBeFilled_52 (by decide) ?_
          exact r_bretW hQ C hr hm hs (by decide) hh dX9_canBeFilled_53
        · rw [if_pos c12] at hh
          refine r_aload_n C.1 C.2.1 dX9_canBeFilled_37 rfl (lv_at hl 0 rfl) ?_
          refine r_getR C hm flX9_21 dX9_canBeFilled_38 hh (fun x9 _ hh => ?_)
          refine lv_iload_n C.1 C.2.1 dX9_canBeFilled_41 rfl (lv_at hl 1 rfl) ?_
          refine r_ald C hm dX9_canBeFilled_42 hh (fun x10 _ hh => ?_)
          refine lv_bipush (v := (-2)) C.1 C.2.1 dX9_canBeFilled_43 (by decide) ?_
          refine lv_icmp_ne (tgt := 52) C.1 C.2.1 dX9_canBeFilled_45 (by decide) (fun c11 => ?_) (fun c11 => ?_)
          · rw [if_neg c11] at hh
            refine lv_iconst (v := 0) C.1 C.2.1 dX9_canBeFilled_52 (by decide) ?_
            exact r_bretW hQ C hr hm hs (by decide) hh dX9_canBeFilled_53
          · rw [if_pos c11] at hh
            refine lv_iconst (v := 1) C.1 C.2.1 dX9_canBeFilled_48 (by decide) ?_
            refine lv_goto (tgt := 53) C.1 C.2.1 dX9_canBeFilled_49 (by decide) ?_
            exact r_bretW hQ C hr hm hs (by decide) hh dX9_canBeFilled_53
def mX9_mendWith (h : MHp) (a0 : Nat) (a1 : Int32) (a2 : Option Nat) : Option (MHp) := (rcv 10 h (some a0)).bind fun b2 => (mX9_has h b2 a1).bind fun r1 => (if r1 = 0 then some h else (gR 10 9 h (some a0)).bind fun x3 => (mX9_keep h a2 x3 (a1 * 6)).bind fun r4 => (gR 10 2 r4 (some a0)).bind fun x5 => (gI 10 7 r4 (some a0)).bind fun x6 => (pAI 20 r4 x5 a1 x6).bind fun h7 => some h7)
set_option maxRecDepth 100000 in
set_option maxHeartbeats 4000000 in
theorem c_X9_mendWith (l : Launch) (G : Env0) (h : MHp) (a0 : Nat) (a1 : Int32) (a2 : Option Nat) (res : MHp) (hh : mX9_mendWith h a0 a1 a2 = some res) : MG l yX9_mendWith cX9_mendWith 3 none 2 40 0 0 G h [.ref a0, .int a1, va_rf a2] (none) (res) := by
  refine MG_of (own := RX9) (plainFor_of_name (by decide)) rfl (by simp [lg_sl, va_cat, vc_i, vc_l, vc_r]) ?_
  intro p e s m args below meth c Q ls hQ C X hin hm hs hl hr
  have hl : lv_has ls 3 [(0, .ref a0), (1, .int a1), (2, va_rf a2)] := by simpa [lv_args, va_cat, vc_i, vc_l, vc_r] using hl
  have hl : lv_has ls 3 [(0, va_rf (some a0)), (1, .int a1), (2, va_rf a2)] := hl
  unfold mX9_mendWith at hh
  refine r_aload_n C.1 C.2.1 dX9_mendWith_0 rfl (lv_at hl 0 rfl) ?_
  refine lv_iload_n C.1 C.2.1 dX9_mendWith_1 rfl (lv_at hl 1 rfl) ?_
  refine r_cV C X hm hs mlX9_60 mvX9_60 hh (vv := fun r => some (.int r)) (hp := fun r => h) (fun b r hg => c_X9_has l G h b _ r hg) rfl rfl (Nat.le_of_ble_eq_true rfl) (Nat.le_of_ble_eq_true rfl) (Nat.le_of_ble_eq_true rfl) hl.1 dX9_mendWith_2 (fun b2 r1 H locs hgr1 hh hm hs => ?_)
  refine W.eq (g2 := F0 m 5 ls [.int r1]) rfl ?_
  refine lv_if_eq (tgt := 30) C.1 C.2.1 dX9_mendWith_5 (by decide) (fun c8 => ?_) (fun c8 => ?_)
  · rw [if_pos c8] at hh
    exact r_vretW hQ C hr hm hs hh dX9_mendWith_30
  · rw [if_neg c8] at hh
    refine r_aload_n C.1 C.2.1 dX9_mendWith_8 rfl (lv_at hl 2 rfl) ?_
    refine r_aload_n C.1 C.2.1 dX9_mendWith_9 rfl (lv_at hl 0 rfl) ?_
    refine r_getR C hm flX9_30 dX9_mendWith_10 hh (fun x3 _ hh => ?_)
    refine lv_iload_n C.1 C.2.1 dX9_mendWith_13 rfl (lv_at hl 1 rfl) ?_
    refine lv_bipush (v := 6) C.1 C.2.1 dX9_mendWith_14 (by decide) ?_
    refine lv_imul C.1 C.2.1 dX9_mendWith_16 ?_
    refine r_cS C X hm hs mlX9_50 msX9_50 hh (vv := fun r => none) (hp := fun r => r) (fun r hg => c_X9_keep l G h _ _ _ r hg) rfl rfl (Nat.le_of_ble_eq_true rfl) (Nat.le_of_ble_eq_true rfl) (Nat.le_of_ble_eq_true rfl) hl.1 dX9_mendWith_17 (fun r4 H locs hgr4 hh hm hs => ?_)
    refine W.eq (g2 := F0 m 20 ls []) rfl ?_
    refine r_aload_n C.1 C.2.1 dX9_mendWith_20 rfl (lv_at hl 0 rfl) ?_
    refine r_getR C hm flX9_18 dX9_mendWith_21 hh (fun x5 _ hh => ?_)
    refine lv_iload_n C.1 C.2.1 dX9_mendWith_24 rfl (lv_at hl 1 rfl) ?_
    refine r_aload_n C.1 C.2.1 dX9_mendWith_25 rfl (lv_at hl 0 rfl) ?_
    refine r_getI C hm flX9_47 dX9_mendWith_26 hh (fun x6 _ hh => ?_)
    refine r_ast C hm hs dX9_mendWith_29 hh (fun h7 H locs _ hh hm hs => ?_)
    exact r_vretW hQ C hr hm hs hh dX9_mendWith_30
def mX9_fillWith (h : MHp) (a0 : Nat) (a1 : Int32) (a2 : Int32) (a3 : Option Nat) : Option (MHp) := (rcv 10 h (some a0)).bind fun b2 => (mX9_has h b2 a1).bind fun r1 => (if r1 = 0 then some h else (gR 10 10 h (some a0)).bind fun x3 => (mX9_keep h a3 x3 ((a2 * 360) + (a1 * 6))).bind fun r4 => some r4)
set_option maxRecDepth 100000 in
set_option maxHeartbeats 4000000 in
theorem c_X9_fillWith (l : Launch) (G : Env0) (h : MHp) (a0 : Nat) (a1 : Int32) (a2 : Int32) (a3 : Option Nat) (res : MHp) (hh : mX9_fillWith h a0 a1 a2 a3 = some res) : MG l yX9_fillWith cX9_fillWith 4 none 2 40 0 0 G h [.ref a0, .int a1, .int a2, va_rf a3] (none) (res) := by
  refine MG_of (own := RX9) (plainFor_of_name (by decide)) rfl (by simp [lg_sl, va_cat, vc_i, vc_l, vc_r]) ?_
  intro p e s m args below meth c Q ls hQ C X hin hm hs hl hr
  have hl : lv_has ls 4 [(0, .ref a0), (1, .int a1), (2, .int a2), (3, va_rf a3)] := by simpa [lv_args, va_cat, vc_i, vc_l, vc_r] using hl
  have hl : lv_has ls 4 [(0, va_rf (some a0)), (1, .int a1), (2, .int a2), (3, va_rf a3)] := hl
  unfold mX9_fillWith at hh
  refine r_aload_n C.1 C.2.1 dX9_fillWith_0 rfl (lv_at hl 0 rfl) ?_
  refine lv_iload_n C.1 C.2.1 dX9_fillWith_1 rfl (lv_at hl 1 rfl) ?_
  refine r_cV C X hm hs mlX9_60 mvX9_60 hh (vv := fun r => some (.int r)) (hp := fun r => h) (fun b r hg => c_X9_has l G h b _ r hg) rfl rfl (Nat.le_of_ble_eq_true rfl) (Nat.le_of_ble_eq_true rfl) (Nat.le_of_ble_eq_true rfl) hl.1 dX9_fillWith_2 (fun b2 r1 H locs hgr1 hh hm hs => ?_)
  refine W.eq (g2 := F0 m 5 ls [.int r1]) rfl ?_
  refine lv_if_eq (tgt := 26) C.1 C.2.1 dX9_fillWith_5 (by decide) (fun c5 => ?_) (fun c5 => ?_)
  · rw [if_pos c5] at hh
    exact r_vretW hQ C hr hm hs hh dX9_fillWith_26
  · rw [if_neg c5] at hh
    refine r_aload_n C.1 C.2.1 dX9_fillWith_8 rfl (lv_at hl 3 rfl) ?_
    refine r_aload_n C.1 C.2.1 dX9_fillWith_9 rfl (lv_at hl 0 rfl) ?_
    refine r_getR C hm flX9_33 dX9_fillWith_10 hh (fun x3 _ hh => ?_)
    refine lv_iload_n C.1 C.2.1 dX9_fillWith_13 rfl (lv_at hl 2 rfl) ?_
    refine lv_sipush (v := 360) C.1 C.2.1 dX9_fillWith_14 (by decide) ?_
    refine lv_imul C.1 C.2.1 dX9_fillWith_17 ?_
    refine lv_iload_n C.1 C.2.1 dX9_fillWith_18 rfl (lv_at hl 1 rfl) ?_
    refine lv_bipush (v := 6) C.1 C.2.1 dX9_fillWith_19 (by decide) ?_
    refine lv_imul C.1 C.2.1 dX9_fillWith_21 ?_
    refine lv_iadd C.1 C.2.1 dX9_fillWith_22 ?_
    refine r_cS C X hm hs mlX9_50 msX9_50 hh (vv := fun r => none) (hp := fun r => r) (fun r hg => c_X9_keep l G h _ _ _ r hg) rfl rfl (Nat.le_of_ble_eq_true rfl) (Nat.le_of_ble_eq_true rfl) (Nat.le_of_ble_eq_true rfl) hl.1 dX9_fillWith_23 (fun r4 H locs hgr4 hh hm hs => ?_)
    refine W.eq (g2 := F0 m 26 ls []) rfl ?_
    exact r_vretW hQ C hr hm hs hh dX9_fillWith_26
def mX9_endFilling (h : MHp) (a0 : Nat) (a1 : Int32) : Option (MHp) := (rcv 10 h (some a0)).bind fun b2 => (mX9_has h b2 a1).bind fun r1 => (if r1 = 0 then some h else (gR 10 3 h (some a0)).bind fun x3 => (gI 10 7 h (some a0)).bind fun x4 => (pAI 20 h x3 a1 x4).bind fun h5 => some h5)
set_option maxRecDepth 100000 in
set_option maxHeartbeats 4000000 in
theorem c_X9_endFilling (l : Launch) (G : Env0) (h : MHp) (a0 : Nat) (a1 : Int32) (res : MHp) (hh : mX9_endFilling h a0 a1 = some res) : MG l yX9_endFilling cX9_endFilling 2 none 1 21 0 0 G h [.ref a0, .int a1] (none) (res) := by
  refine MG_of (own := RX9) (plainFor_of_name (by decide)) rfl (Nat.le_of_ble_eq_true rfl) ?_
  intro p e s m args below meth c Q ls hQ C X hin hm hs hl hr
  have hl : lv_has ls 2 [(0, va_rf (some a0)), (1, .int a1)] := hl
  unfold mX9_endFilling at hh
  refine r_aload_n C.1 C.2.1 dX9_endFilling_0 rfl (lv_at hl 0 rfl) ?_
  refine lv_iload_n C.1 C.2.1 dX9_endFilling_1 rfl (lv_at hl 1 rfl) ?_
  refine r_cV C X hm hs mlX9_60 mvX9_60 hh (vv := fun r => some (.int r)) (hp := fun r => h) (fun b r hg => c_X9_has l G h b _ r hg) rfl rfl (Nat.le_of_ble_eq_true rfl) (Nat.le_of_ble_eq_true rfl) (Nat.le_of_ble_eq_true rfl) hl.1 dX9_endFilling_2 (fun b2 r1 H locs hgr1 hh hm hs => ?_)
  refine W.eq (g2 := F0 m 5 ls [.int r1]) rfl ?_
  refine lv_if_eq (tgt := 18) C.1 C.2.1 dX9_endFilling_5 (by decide) (fun c6 => ?_) (fun c6 => ?_)
  · rw [if_pos c6] at hh
    exact r_vretW hQ C hr hm hs hh dX9_endFilling_18
  · rw [if_neg c6] at hh
    refine r_aload_n C.1 C.2.1 dX9_endFilling_8 rfl (lv_at hl 0 rfl) ?_
    refine r_getR C hm flX9_21 dX9_endFilling_9 hh (fun x3 _ hh => ?_)
    refine lv_iload_n C.1 C.2.1 dX9_endFilling_12 rfl (lv_at hl 1 rfl) ?_
    refine r_aload_n C.1 C.2.1 dX9_endFilling_13 rfl (lv_at hl 0 rfl) ?_
    refine r_getI C hm flX9_47 dX9_endFilling_14 hh (fun x4 _ hh => ?_)
    refine r_ast C hm hs dX9_endFilling_17 hh (fun h5 H locs _ hh hm hs => ?_)
    exact r_vretW hQ C hr hm hs hh dX9_endFilling_18
def mX9_countBroken_b37 (k4 : MHp → Nat → Int32 → Int32 → Option (Int32 × MHp)) (h : MHp) (a0 : Nat) (v1 : Int32) (v2 : Int32) : Option (Int32 × MHp) := k4 h a0 v1 (v2 + 1)
def mX9_countBroken_l4 : Nat → MHp → Nat → Int32 → Int32 → Option (Int32 × MHp)
  | 0, _, _, _, _ => none
  | n + 1, h, a0, v1, v2 => (gI 10 6 h (some a0)).bind fun x1 => (if x1 ≤ v2 then some (v1, h) else (gI 10 7 h (some a0)).bind fun x2 => (rcv 10 h (some a0)).bind fun b4 => (mX9_isThere h b4 v2 x2).bind fun r3 => (if r3 = 0 then mX9_countBroken_b37 (mX9_countBroken_l4 n) h a0 v1 v2 else (rcv 10 h (some a0)).bind fun b6 => (mX9_ruleThatHolds h b6 v2).bind fun r5 => (if r5.1 = (-2) then mX9_countBroken_b37 (mX9_countBroken_l4 n) r5.2 a0 v1 v2 else mX9_countBroken_b37 (mX9_countBroken_l4 n) r5.2 a0 (v1 + 1) v2)))
def mX9_countBroken (h : MHp) (a0 : Nat) : Option (Int32 × MHp) := mX9_countBroken_l4 FUEL h a0 0 0
set_option maxRecDepth 100000 in
set_option maxHeartbeats 4000000 in
theorem c_X9_countBroken (l : Launch) (G : Env0) (h : MHp) (a0 : Nat) (res : Int32 × MHp) (hh : mX9_countBroken h a0 = some res) : MG l yX9_countBroken cX9_countBroken 3 (some .int) 5 115 0 0 G h [.ref a0] (some (.int res.1)) (res.2) := by
  refine MG_of (own := RX9) (plainFor_of_name (by decide)) rfl (Nat.le_of_ble_eq_true rfl) ?_
  intro p e s m args below meth c Q ls hQ C X hin hm hs hl hr
  have hl : lv_has ls 3 [(0, va_rf (some a0))] := hl
  have B37 : ∀ (k4 : MHp → Nat → Int32 → Int32 → Option (Int32 × MHp)), (∀ (h : MHp) (H : Heap) (locs : List Loc) (ls : Array Slot) (a0 : Nat) (v1 : Int32) (v2 : Int32) , mHp (gD G) (gC G) (gB G) h H → va_S (fun q => gB G ≤ q) s.heap H locs → lv_has ls 3 [(0, va_rf (some a0)), (1, .int v1), (2, .int v2)] → k4 h a0 v1 v2 = some res → W p l e ({ frames := 5, cells := 0, slots := 0, locals := 115 }) s m args below meth c H locs 0 0 Q (F0 m 4 ls [])) → ∀ (h : MHp) (H : Heap) (locs : List Loc) (ls : Array Slot) (a0 : Nat) (v1 : Int32) (v2 : Int32) , mHp (gD G) (gC G) (gB G) h H → va_S (fun q => gB G ≤ q) s.heap H locs → lv_has ls 3 [(0, va_rf (some a0)), (1, .int v1), (2, .int v2)] → mX9_countBroken_b37 k4 h a0 v1 v2 = some res → W p l e ({ frames := 5, cells := 0, slots := 0, locals := 115 }) s m args below meth c H locs 0 0 Q (F0 m 37 ls []) := by
    intro k4 hk4 h H locs ls a0 v1 v2 hm hs hl hh
    unfold mX9_countBroken_b37 at hh
    refine lv_iinc (v := (v2 + 1)) (lv' := [(2, .int (v2 + 1)), (0, va_rf (some a0)), (1, .int v1)]) C.1 C.2.1 dX9_countBroken_37 hl (k := 2) rfl rfl (by decide) rfl (fun ls hl => ?_)
    refine lv_goto (tgt := 4) C.1 C.2.1 dX9_countBroken_40 (by decide) ?_
    exact hk4 _ _ _ _ _ _ _  hm hs (lv_sub hl [1, 2, 0] rfl) hh
  have B4 : ∀ n : Nat, ∀ (h : MHp) (H : Heap) (locs : List Loc) (ls : Array Slot) (a0 : Nat) (v1 : Int32) (v2 : Int32) , mHp (gD G) (gC G) (gB G) h H → va_S (fun q => gB G ≤ q) s.heap H locs → lv_has ls 3 [(0, va_rf (some a0)), (1, .int v1), (2, .int v2)] → mX9_countBroken_l4 n h a0 v1 v2 = some res → W p l e ({ frames := 5, cells := 0, slots := 0, locals := 115 }) s m args below meth c H locs 0 0 Q (F0 m 4 ls []) := by
    intro n
    induction n with
    | zero => intro h H locs ls a0 v1 v2 hm hs hl hh; cases hh
    | succ n ih =>
      intro h H locs ls a0 v1 v2 hm hs hl hh
      unfold mX9_countBroken_l4 at hh
      refine lv_iload_n C.1 C.2.1 dX9_countBroken_4 rfl (lv_at hl 2 rfl) ?_
      refine r_aload_n C.1 C.2.1 dX9_countBroken_5 rfl (lv_at hl 0 rfl) ?_
      refine r_getI C hm flX9_43 dX9_countBroken_6 hh (fun x1 _ hh => ?_)
      refine lv_icmp_ge (tgt := 43) C.1 C.2.1 dX9_countBroken_9 (by decide) (fun c9 => ?_) (fun c9 => ?_)
      · rw [if_pos c9] at hh
        refine lv_iload_n C.1 C.2.1 dX9_countBroken_43 rfl (lv_at hl 1 rfl) ?_
        exact r_iretW hQ C hr hm hs hh dX9_countBroken_44
      · rw [if_neg c9] at hh
        refine r_aload_n C.1 C.2.1 dX9_countBroken_12 rfl (lv_at hl 0 rfl) ?_
        refine lv_iload_n C.1 C.2.1 dX9_countBroken_13 rfl (lv_at hl 2 rfl) ?_
        refine r_aload_n C.1 C.2.1 dX9_countBroken_14 rfl (lv_at hl 0 rfl) ?_
        refine r_getI C hm flX9_47 dX9_countBroken_15 hh (fun x2 _ hh => ?_)
        refine r_cV C X hm hs mlX9_107 mvX9_107 hh (vv := fun r => some (.int r)) (hp := fun r => h) (fun b r hg => c_X9_isThere l G h b _ _ r hg) rfl rfl (Nat.le_of_ble_eq_true rfl) (Nat.le_of_ble_eq_true rfl) (Nat.le_of_ble_eq_true rfl) hl.1 dX9_countBroken_18 (fun b4 r3 H locs hgr3 hh hm hs => ?_)
        refine W.eq (g2 := F0 m 21 ls [.int r3]) rfl ?_
        refine lv_if_eq (tgt := 37) C.1 C.2.1 dX9_countBroken_21 (by decide) (fun c8 => ?_) (fun c8 => ?_)
        · rw [if_pos c8] at hh
          exact B37 _ ih _ _ _ _ _ _ _  hm hs (lv_sub hl [0, 1, 2] rfl) hh
        · rw [if_neg c8] at hh
          refine r_aload_n C.1 C.2.1 dX9_countBroken_24 rfl (lv_at hl 0 rfl) ?_
          refine lv_iload_n C.1 C.2.1 dX9_countBroken_25 rfl (lv_at hl 2 rfl) ?_
          refine r_cV C X hm hs mlX9_102 mvX9_102 hh (vv := fun r => some (.int r.1)) (hp := fun r => r.2) (fun b r hg => c_X9_ruleThatHolds l G h b _ r hg) rfl rfl (Nat.le_of_ble_eq_true rfl) (Nat.le_of_ble_eq_true rfl) (Nat.le_of_ble_eq_true rfl) hl.1 dX9_countBroken_26 (fun b6 r5 H locs hgr5 hh hm hs => ?_)
          refine W.eq (g2 := F0 m 29 ls [.int r5.1]) rfl ?_
          refine lv_bipush (v := (-2)) C.1 C.2.1 dX9_countBroken_29 (by decide) ?_
          refine lv_icmp_eq (tgt := 37) C.1 C.2.1 dX9_countBroken_31 (by decide) (fun c7 => ?_) (fun c7 => ?_)
          · rw [if_pos c7] at hh
            exact B37 _ ih _ _ _ _ _ _ _  hm hs (lv_sub hl [0, 1, 2] rfl) hh
          · rw [if_neg c7] at hh
            refine lv_iinc (v := (v1 + 1)) (lv' := [(1, .int (v1 + 1)), (0, va_rf (some a0)), (2, .int v2)]) C.1 C.2.1 dX9_countBroken_34 hl (k := 1) rfl rfl (by decide) (by simp [va_cat, vc_i, vc_l, vc_r]) (fun ls hl => ?_)
            exact B37 _ ih _ _ _ _ _ _ _  hm hs (lv_sub hl [1, 0, 2] rfl) hh
  unfold mX9_countBroken at hh
  refine lv_iconst (v := 0) C.1 C.2.1 dX9_countBroken_0 (by decide) ?_
  refine lv_istore_n (i := 1) (lv' := [(1, .int 0), (0, va_rf (some a0))]) C.1 C.2.1 dX9_countBroken_1 rfl hl (by decide) (by simp [va_cat, vc_i, vc_l, vc_r]) (fun ls hl => ?_)
  refine lv_iconst (v := 0) C.1 C.2.1 dX9_countBroken_2 (by decide) ?_
  refine lv_istore_n (i := 2) (lv' := [(2, .int 0), (1, .int 0), (0, va_rf (some a0))]) C.1 C.2.1 dX9_countBroken_3 rfl hl (by decide) rfl (fun ls hl => ?_)
  exact B4 FUEL _ _ _ _ _ _ _  hm hs (lv_sub hl [2, 1, 0] rfl) hh
def mX9_countSince_b29 (k4 : Nat → Option Nat → Int32 → Int32 → Option (Int32)) (h : MHp) (a0 : Nat) (v1 : Option Nat) (v2 : Int32) (v3 : Int32) : Option (Int32) := k4 a0 v1 v2 (v3 + 1)
def mX9_countSince_l4 (h : MHp) : Nat → Nat → Option Nat → Int32 → Int32 → Option (Int32)
  | 0, _, _, _, _ => none
  | n + 1, a0, v1, v2, v3 => (gI 10 6 h (some a0)).bind fun x1 => (if x1 ≤ v3 then some v2 else (gN 20 h v1).bind fun x2 => (if x2 ≤ v3 then some v2 else (gAI 20 h v1 v3).bind fun x3 => (if x3 = (-2) then mX9_countSince_b29 (mX9_countSince_l4 h n) h a0 v1 v2 v3 else mX9_countSince_b29 (mX9_countSince_l4 h n) h a0 v1 (v2 + 1) v3)))
def mX9_countSince (h : MHp) (a0 : Nat) (a1 : Option Nat) : Option (Int32) := mX9_countSince_l4 h FUEL a0 a1 0 0
set_option maxRecDepth 100000 in
set_option maxHeartbeats 4000000 in
theorem c_X9_countSince (l : Launch) (G : Env0) (h : MHp) (a0 : Nat) (a1 : Option Nat) (res : Int32) (hh : mX9_countSince h a0 a1 = some res) : MG l yX9_countSince cX9_countSince 4 (some .int) 0 0 0 0 G h [.ref a0, va_rf a1] (some (.int res)) (h) := by
  refine MG_of (own := RX9) (plainFor_of_name (by decide)) rfl (by simp [lg_sl, va_cat, vc_i, vc_l, vc_r]) ?_
  intro p e s m args below meth c Q ls hQ C X hin hm hs hl hr
  have hl : lv_has ls 4 [(0, .ref a0), (1, va_rf a1)] := by simpa [lv_args, va_cat, vc_i, vc_l, vc_r] using hl
  have hl : lv_has ls 4 [(0, va_rf (some a0)), (1, va_rf a1)] := hl
  have B29 : ∀ (k4 : Nat → Option Nat → Int32 → Int32 → Option (Int32)), (∀ (H : Heap) (locs : List Loc) (ls : Array Slot) (a0 : Nat) (v1 : Option Nat) (v2 : Int32) (v3 : Int32) , mHp (gD G) (gC G) (gB G) h H → va_S (fun q => gB G ≤ q) s.heap H locs → lv_has ls 4 [(0, va_rf (some a0)), (1, va_rf v1), (2, .int v2), (3, .int v3)] → k4 a0 v1 v2 v3 = some res → W p l e ({ frames := 0, cells := 0, slots := 0, locals := 0 }) s m args below meth c H locs 0 0 Q (F0 m 4 ls [])) → ∀ (H : Heap) (locs : List Loc) (ls : Array Slot) (a0 : Nat) (v1 : Option Nat) (v2 : Int32) (v3 : Int32) , mHp (gD G) (gC G) (gB G) h H → va_S (fun q => gB G ≤ q) s.heap H locs → lv_has ls 4 [(0, va_rf (some a0)), (1, va_rf v1), (2, .int v2), (3, .int v3)] → mX9_countSince_b29 k4 h a0 v1 v2 v3 = some res → W p l e ({ frames := 0, cells := 0, slots := 0, locals := 0 }) s m args below meth c H locs 0 0 Q (F0 m 29 ls []) := by
    intro k4 hk4 H locs ls a0 v1 v2 v3 hm hs hl hh
    unfold mX9_countSince_b29 at hh
    refine lv_iinc (v := (v3 + 1)) (lv' := [(3, .int (v3 + 1)), (0, va_rf (some a0)), (1, va_rf v1), (2, .int v2)]) C.1 C.2.1 dX9_countSince_29 hl (k := 3) rfl rfl (by decide) rfl (fun ls hl => ?_)
    refine lv_goto (tgt := 4) C.1 C.2.1 dX9_countSince_32 (by decide) ?_
    exact hk4 _ _ _ _ _ _ _  hm hs (lv_sub hl [1, 2, 3, 0] rfl) hh
  have B4 : ∀ n : Nat, ∀ (H : Heap) (locs : List Loc) (ls : Array Slot) (a0 : Nat) (v1 : Option Nat) (v2 : Int32) (v3 : Int32) , mHp (gD G) (gC G) (gB G) h H → va_S (fun q => gB G ≤ q) s.heap H locs → lv_has ls 4 [(0, va_rf (some a0)), (1, va_rf v1), (2, .int v2), (3, .int v3)] → mX9_countSince_l4 h n a0 v1 v2 v3 = some res → W p l e ({ frames := 0, cells := 0, slots := 0, locals := 0 }) s m args below meth c H locs 0 0 Q (F0 m 4 ls []) := by
    intro n
    induction n with
    | zero => intro H locs ls a0 v1 v2 v3 hm hs hl hh; cases hh
    | succ n ih =>
      intro H locs ls a0 v1 v2 v3 hm hs hl hh
      unfold mX9_countSince_l4 at hh
      refine lv_iload_n C.1 C.2.1 dX9_countSince_4 rfl (lv_at hl 3 rfl) ?_
      refine r_aload_n C.1 C.2.1 dX9_countSince_5 rfl (lv_at hl 0 rfl) ?_
      refine r_getI C hm flX9_43 dX9_countSince_6 hh (fun x1 _ hh => ?_)
      refine lv_icmp_ge (tgt := 35) C.1 C.2.1 dX9_countSince_9 (by decide) (fun c6 => ?_) (fun c6 => ?_)
      · rw [if_pos c6] at hh
        refine lv_iload_n C.1 C.2.1 dX9_countSince_35 rfl (lv_at hl 2 rfl) ?_
        exact r_iretP hQ C hr hm hs hh dX9_countSince_36
      · rw [if_neg c6] at hh
        refine lv_iload_n C.1 C.2.1 dX9_countSince_12 rfl (lv_at hl 3 rfl) ?_
        refine r_aload_n C.1 C.2.1 dX9_countSince_13 rfl (lv_at hl 1 rfl) ?_
        refine r_len C hm dX9_countSince_14 (kd := 20) (by decide) hh (fun x2 _ hh => ?_)
        refine lv_icmp_ge (tgt := 35) C.1 C.2.1 dX9_countSince_15 (by decide) (fun c5 => ?_) (fun c5 => ?_)
        · rw [if_pos c5] at hh
          refine lv_iload_n C.1 C.2.1 dX9_countSince_35 rfl (lv_at hl 2 rfl) ?_
          exact r_iretP hQ C hr hm hs hh dX9_countSince_36
        · rw [if_neg c5] at hh
          refine r_aload_n C.1 C.2.1 dX9_countSince_18 rfl (lv_at hl 1 rfl) ?_
          refine lv_iload_n C.1 C.2.1 dX9_countSince_19 rfl (lv_at hl 3 rfl) ?_
          refine r_ald C hm dX9_countSince_20 hh (fun x3 _ hh => ?_)
          refine lv_bipush (v := (-2)) C.1 C.2.1 dX9_countSince_21 (by decide) ?_
          refine lv_icmp_eq (tgt := 29) C.1 C.2.1 dX9_countSince_23 (by decide) (fun c4 => ?_) (fun c4 => ?_)
          · rw [if_pos c4] at hh
            exact B29 _ ih _ _ _ _ _ _ _  hm hs (lv_sub hl [0, 1, 2, 3] rfl) hh
          · rw [if_neg c4] at hh
            refine lv_iinc (v := (v2 + 1)) (lv' := [(2, .int (v2 + 1)), (0, va_rf (some a0)), (1, va_rf v1), (3, .int v3)]) C.1 C.2.1 dX9_countSince_26 hl (k := 2) rfl rfl (by decide) (by simp [va_cat, vc_i, vc_l, vc_r]) (fun ls hl => ?_)
            exact B29 _ ih _ _ _ _ _ _ _  hm hs (lv_sub hl [1, 2, 0, 3] rfl) hh
  unfold mX9_countSince at hh
  refine lv_iconst (v := 0) C.1 C.2.1 dX9_countSince_0 (by decide) ?_
  refine lv_istore_n (i := 2) (lv' := [(2, .int 0), (0, va_rf (some a0)), (1, va_rf a1)]) C.1 C.2.1 dX9_countSince_1 rfl hl (by decide) (by simp [va_cat, vc_i, vc_l, vc_r]) (fun ls hl => ?_)
  refine lv_iconst (v := 0) C.1 C.2.1 dX9_countSince_2 (by decide) ?_
  refine lv_istore_n (i := 3) (lv' := [(3, .int 0), (2, .int 0), (0, va_rf (some a0)), (1, va_rf a1)]) C.1 C.2.1 dX9_countSince_3 rfl hl (by decide) rfl (fun ls hl => ?_)
  exact B4 FUEL _ _ _ _ _ _ _  hm hs (lv_sub hl [2, 3, 1, 0] rfl) hh

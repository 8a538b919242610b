def mX8_init (h : MHp) (a0 : Nat) (a1 : Option Nat) (a2 : Option Nat) : Option (MHp) := (pR 9 0 h (some a0) a1).bind fun h1 => (pR 9 8 h1 (some a0) a2).bind fun h2 => some h2
set_option maxRecDepth 100000 in
set_option maxHeartbeats 4000000 in
theorem c_X8_init (l : Launch) (G : Env0) (h : MHp) (a0 : Nat) (a1 : Option Nat) (a2 : Option Nat) (res : MHp) (hh : mX8_init h a0 a1 a2 = some res) : MG l yX8_init cX8_init 3 none 1 12 0 0 G h [.ref a0, va_rf a1, va_rf a2] (none) (res) := by
  refine MG_of (own := RX8) (plainFor_of_name (by decide)) rfl (by simp [lg_sl, va_cat, vc_i, vc_l, vc_r]) ?_
  intro p e s m args below meth c Q ls hQ C X hin hm hs hl hr
  have hl : lv_has ls 3 [(0, .ref a0), (1, va_rf a1), (2, va_rf a2)] := by simpa [lv_args, va_cat, vc_i, vc_l, vc_r] using hl
  have hl : lv_has ls 3 [(0, va_rf (some a0)), (1, va_rf a1), (2, va_rf a2)] := hl
  unfold mX8_init at hh
  refine r_aload_n C.1 C.2.1 dX8_init_0 rfl (lv_at hl 0 rfl) ?_
  refine r_objInit C (in_tbl q_110 rfl) (in_tbl q_37 rfl) (in_tbl q_38 rfl) hl.1 dX8_init_1 (Nat.le_of_ble_eq_true rfl) (Nat.le_of_ble_eq_true rfl) ?_
  refine r_aload_n C.1 C.2.1 dX8_init_4 rfl (lv_at hl 0 rfl) ?_
  refine r_aload_n C.1 C.2.1 dX8_init_5 rfl (lv_at hl 1 rfl) ?_
  refine r_putR C hm hs flX8_9 (Or.inr ⟨ffX8_9, hin rfl⟩) dX8_init_6 hh (fun h1 H locs _ hh hm hs => ?_)
  refine r_aload_n C.1 C.2.1 dX8_init_9 rfl (lv_at hl 0 rfl) ?_
  refine r_aload_n C.1 C.2.1 dX8_init_10 rfl (lv_at hl 2 rfl) ?_
  refine r_putR C hm hs flX8_15 (Or.inl fm_9_8) dX8_init_11 hh (fun h2 H locs _ hh hm hs => ?_)
  exact r_vretW hQ C hr hm hs hh dX8_init_14
def mX8_byteAt (h : MHp) (a0 : Nat) (a1 : Int32) : Option (Int32) := (if a1 < 0 then some 0 else (gR 9 0 h (some a0)).bind fun x1 => (gN 22 h x1).bind fun x2 => (if x2 ≤ a1 then some 0 else (gR 9 0 h (some a0)).bind fun x3 => (gAI 22 h x3 a1).bind fun x4 => some x4))
set_option maxRecDepth 100000 in
set_option maxHeartbeats 4000000 in
theorem c_X8_byteAt (l : Launch) (G : Env0) (h : MHp) (a0 : Nat) (a1 : Int32) (res : Int32) (hh : mX8_byteAt h a0 a1 = some res) : MG l yX8_byteAt cX8_byteAt 2 (some .int) 0 0 0 0 G h [.ref a0, .int a1] (some (.int res)) (h) := by
  refine MG_of (own := RX8) (plainFor_of_name (by decide)) rfl (Nat.le_of_ble_eq_true rfl) ?_
  intro p e s m args below meth c Q ls hQ C X hin hm hs hl hr
  have hl : lv_has ls 2 [(0, va_rf (some a0)), (1, .int a1)] := hl
  unfold mX8_byteAt at hh
  refine lv_iload_n C.1 C.2.1 dX8_byteAt_0 rfl (lv_at hl 1 rfl) ?_
  refine lv_if_lt (tgt := 22) C.1 C.2.1 dX8_byteAt_1 (by decide) (fun c6 => ?_) (fun c6 => ?_)
  · rw [if_pos c6] at hh
    refine lv_iconst (v := 0) C.1 C.2.1 dX8_byteAt_22 (by decide) ?_
    exact r_iretP hQ C hr hm hs hh dX8_byteAt_23
  · rw [if_neg c6] at hh
    refine lv_iload_n C.1 C.2.1 dX8_byteAt_4 rfl (lv_at hl 1 rfl) ?_
    refine r_aload_n C.1 C.2.1 dX8_byteAt_5 rfl (lv_at hl 0 rfl) ?_
    refine r_getR C hm flX8_9 dX8_byteAt_6 hh (fun x1 _ hh => ?_)
    refine r_len C hm dX8_byteAt_9 (kd := 22) (by decide) hh (fun x2 _ hh => ?_)
    refine lv_icmp_ge (tgt := 22) C.1 C.2.1 dX8_byteAt_10 (by decide) (fun c5 => ?_) (fun c5 => ?_)
    · rw [if_pos c5] at hh
      refine lv_iconst (v := 0) C.1 C.2.1 dX8_byteAt_22 (by decide) ?_
      exact r_iretP hQ C hr hm hs hh dX8_byteAt_23
    · rw [if_neg c5] at hh
      refine r_aload_n C.1 C.2.1 dX8_byteAt_13 rfl (lv_at hl 0 rfl) ?_
      refine r_getR C hm flX8_9 dX8_byteAt_14 hh (fun x3 _ hh => ?_)
      refine lv_iload_n C.1 C.2.1 dX8_byteAt_17 rfl (lv_at hl 1 rfl) ?_
      refine r_bald C hm dX8_byteAt_18 hh (fun x4 _ hh => ?_)
      refine lv_goto (tgt := 23) C.1 C.2.1 dX8_byteAt_19 (by decide) ?_
      exact r_iretP hQ C hr hm hs hh dX8_byteAt_23
def mX8_isDigit (h : MHp) (a0 : Int32) : Option (Int32) := (if a0 < 48 then some 0 else (if 57 < a0 then some 0 else some 1))
set_option maxRecDepth 100000 in
set_option maxHeartbeats 4000000 in
theorem c_X8_isDigit (l : Launch) (G : Env0) (h : MHp) (a0 : Int32) (res : Int32) (hh : mX8_isDigit h a0 = some res) : MG l yX8_isDigit cX8_isDigit 1 (some .boolean) 0 0 0 0 G h [.int a0] (some (.int res)) (h) := by
  refine MG_of (own := RX8) (plainFor_of_name (by decide)) rfl (Nat.le_of_ble_eq_true rfl) ?_
  intro p e s m args below meth c Q ls hQ C X hin hm hs hl hr
  have hl : lv_has ls 1 [(0, .int a0)] := hl
  unfold mX8_isDigit at hh
  refine lv_iload_n C.1 C.2.1 dX8_isDigit_0 rfl (lv_at hl 0 rfl) ?_
  refine lv_bipush (v := 48) C.1 C.2.1 dX8_isDigit_1 (by decide) ?_
  refine lv_icmp_lt (tgt := 16) C.1 C.2.1 dX8_isDigit_3 (by decide) (fun c2 => ?_) (fun c2 => ?_)
  · rw [if_pos c2] at hh
    refine lv_iconst (v := 0) C.1 C.2.1 dX8_isDigit_16 (by decide) ?_
    exact r_bretP hQ C hr hm hs (by decide) hh dX8_isDigit_17
  · rw [if_neg c2] at hh
    refine lv_iload_n C.1 C.2.1 dX8_isDigit_6 rfl (lv_at hl 0 rfl) ?_
    refine lv_bipush (v := 57) C.1 C.2.1 dX8_isDigit_7 (by decide) ?_
    refine lv_icmp_gt (tgt := 16) C.1 C.2.1 dX8_isDigit_9 (by decide) (fun c1 => ?_) (fun c1 => ?_)
    · rw [if_pos c1] at hh
      refine lv_iconst (v := 0) C.1 C.2.1 dX8_isDigit_16 (by decide) ?_
      exact r_bretP hQ C hr hm hs (by decide) hh dX8_isDigit_17
    · rw [if_neg c1] at hh
      refine lv_iconst (v := 1) C.1 C.2.1 dX8_isDigit_12 (by decide) ?_
      refine lv_goto (tgt := 17) C.1 C.2.1 dX8_isDigit_13 (by decide) ?_
      exact r_bretP hQ C hr hm hs (by decide) hh dX8_isDigit_17
def mX8_isLetter (h : MHp) (a0 : Int32) : Option (Int32) := (if a0 < 97 then some 0 else (if 122 < a0 then some 0 else some 1))
set_option maxRecDepth 100000 in
set_option maxHeartbeats 4000000 in
theorem c_X8_isLetter (l : Launch) (G : Env0) (h : MHp) (a0 : Int32) (res : Int32) (hh : mX8_isLetter h a0 = some res) : MG l yX8_isLetter cX8_isLetter 1 (some .boolean) 0 0 0 0 G h [.int a0] (some (.int res)) (h) := by
  refine MG_of (own := RX8) (plainFor_of_name (by decide)) rfl (Nat.le_of_ble_eq_true rfl) ?_
  intro p e s m args below meth c Q ls hQ C X hin hm hs hl hr
  have hl : lv_has ls 1 [(0, .int a0)] := hl
  unfold mX8_isLetter at hh
  refine lv_iload_n C.1 C.2.1 dX8_isLetter_0 rfl (lv_at hl 0 rfl) ?_
  refine lv_bipush (v := 97) C.1 C.2.1 dX8_isLetter_1 (by decide) ?_
  refine lv_icmp_lt (tgt := 16) C.1 C.2.1 dX8_isLetter_3 (by decide) (fun c2 => ?_) (fun c2 => ?_)
  · rw [if_pos c2] at hh
    refine lv_iconst (v := 0) C.1 C.2.1 dX8_isLetter_16 (by decide) ?_
    exact r_bretP hQ C hr hm hs (by decide) hh dX8_isLetter_17
  · rw [if_neg c2] at hh
    refine lv_iload_n C.1 C.2.1 dX8_isLetter_6 rfl (lv_at hl 0 rfl) ?_
    refine lv_bipush (v := 122) C.1 C.2.1 dX8_isLetter_7 (by decide) ?_
    refine lv_icmp_gt (tgt := 16) C.1 C.2.1 dX8_isLetter_9 (by decide) (fun c1 => ?_) (fun c1 => ?_)
    · rw [if_pos c1] at hh
      refine lv_iconst (v := 0) C.1 C.2.1 dX8_isLetter_16 (by decide) ?_
      exact r_bretP hQ C hr hm hs (by decide) hh dX8_isLetter_17
    · rw [if_neg c1] at hh
      refine lv_iconst (v := 1) C.1 C.2.1 dX8_isLetter_12 (by decide) ?_
      refine lv_goto (tgt := 17) C.1 C.2.1 dX8_isLetter_13 (by decide) ?_
      exact r_bretP hQ C hr hm hs (by decide) hh dX8_isLetter_17
def mX8_takeSign_b83 (h : MHp) (t0 : Option Nat) (t1 : Int32) : Option (MHp) := (pI 9 5 h t0 t1).bind fun h1 => some h1
def mX8_takeSign_b78 (h : MHp) (t0 : Option Nat) : Option (MHp) := mX8_takeSign_b83 h t0 3
def mX8_takeSign (h : MHp) (a0 : Nat) (a1 : Int32) : Option (MHp) := (gI 9 2 h (some a0)).bind fun x2 => (gI 9 3 h (some a0)).bind fun x3 => (if x2 < x3 then (gI 9 2 h (some a0)).bind fun x4 => (pI 9 4 h (some a0) (x4 + 1)).bind fun h5 => (pI 9 6 h5 (some a0) a1).bind fun h6 => (gI 9 6 h6 (some a0)).bind fun x7 => (if x7 = 59 then mX8_takeSign_b78 h6 (some a0) else (gI 9 6 h6 (some a0)).bind fun x8 => (if x8 = 44 then mX8_takeSign_b78 h6 (some a0) else (gI 9 6 h6 (some a0)).bind fun x9 => (if x9 = 61 then mX8_takeSign_b78 h6 (some a0) else (gI 9 6 h6 (some a0)).bind fun x10 => (if x10 = 60 then mX8_takeSign_b78 h6 (some a0) else (gI 9 6 h6 (some a0)).bind fun x11 => (if x11 = 62 then mX8_takeSign_b78 h6 (some a0) else mX8_takeSign_b83 h6 (some a0) 4))))) else (pI 9 5 h (some a0) 0).bind fun h17 => some h17)
set_option maxRecDepth 100000 in
set_option maxHeartbeats 4000000 in
theorem c_X8_takeSign (l : Launch) (G : Env0) (h : MHp) (a0 : Nat) (a1 : Int32) (res : MHp) (hh : mX8_takeSign h a0 a1 = some res) : MG l yX8_takeSign cX8_takeSign 2 none 0 0 0 0 G h [.ref a0, .int a1] (none) (res) := by
  refine MG_of (own := RX8) (plainFor_of_name (by decide)) rfl (Nat.le_of_ble_eq_true rfl) ?_
  intro p e s m args below meth c Q ls hQ C X hin hm hs hl hr
  have hl : lv_has ls 2 [(0, va_rf (some a0)), (1, .int a1)] := hl
  have B83 : ∀ (h : MHp) (H : Heap) (locs : List Loc) (ls : Array Slot) (t0 : Option Nat) (t1 : Int32) , mHp (gD G) (gC G) (gB G) h H → va_S (fun q => gB G ≤ q) s.heap H locs → lv_has ls 2 [] → mX8_takeSign_b83 h t0 t1 = some res → W p l e ({ frames := 0, cells := 0, slots := 0, locals := 0 }) s m args below meth c H locs 0 0 Q (F0 m 83 ls [.int t1, va_rf t0]) := by
    intro h H locs ls t0 t1 hm hs hl hh
    unfold mX8_takeSign_b83 at hh
    refine r_putI C hm hs flX8_32 (Or.inl fm_9_5) dX8_takeSign_83 hh (fun h1 H locs _ hh hm hs => ?_)
    exact r_vretW hQ C hr hm hs hh dX8_takeSign_86
  have B78 : ∀ (h : MHp) (H : Heap) (locs : List Loc) (ls : Array Slot) (t0 : Option Nat) , mHp (gD G) (gC G) (gB G) h H → va_S (fun q => gB G ≤ q) s.heap H locs → lv_has ls 2 [] → mX8_takeSign_b78 h t0 = some res → W p l e ({ frames := 0, cells := 0, slots := 0, locals := 0 }) s m args below meth c H locs 0 0 Q (F0 m 78 ls [va_rf t0]) := by
    intro h H locs ls t0 hm hs hl hh
    unfold mX8_takeSign_b78 at hh
    refine lv_iconst (v := 3) C.1 C.2.1 dX8_takeSign_78 (by decide) ?_
    refine lv_goto (tgt := 83) C.1 C.2.1 dX8_takeSign_79 (by decide) ?_
    exact B83 _ _ _ _ _ _  hm hs (lv_sub hl [] rfl) hh
  unfold mX8_takeSign at hh
  refine r_aload_n C.1 C.2.1 dX8_takeSign_0 rfl (lv_at hl 0 rfl) ?_
  refine r_getI C hm flX8_173 dX8_takeSign_1 hh (fun x2 _ hh => ?_)
  refine r_aload_n C.1 C.2.1 dX8_takeSign_4 rfl (lv_at hl 0 rfl) ?_
  refine r_getI C hm flX8_79 dX8_takeSign_5 hh (fun x3 _ hh => ?_)
  refine lv_icmp_lt (tgt := 17) C.1 C.2.1 dX8_takeSign_8 (by decide) (fun c18 => ?_) (fun c18 => ?_)
  · rw [if_pos c18] at hh
    refine r_aload_n C.1 C.2.1 dX8_takeSign_17 rfl (lv_at hl 0 rfl) ?_
    refine r_aload_n C.1 C.2.1 dX8_takeSign_18 rfl (lv_at hl 0 rfl) ?_
    refine r_getI C hm flX8_173 dX8_takeSign_19 hh (fun x4 _ hh => ?_)
    refine lv_iconst (v := 1) C.1 C.2.1 dX8_takeSign_22 (by decide) ?_
    refine lv_iadd C.1 C.2.1 dX8_takeSign_23 ?_
    refine r_putI C hm hs flX8_82 (Or.inl fm_9_4) dX8_takeSign_24 hh (fun h5 H locs _ hh hm hs => ?_)
    refine r_aload_n C.1 C.2.1 dX8_takeSign_27 rfl (lv_at hl 0 rfl) ?_
    refine lv_iload_n C.1 C.2.1 dX8_takeSign_28 rfl (lv_at hl 1 rfl) ?_
    refine r_putI C hm hs flX8_121 (Or.inl fm_9_6) dX8_takeSign_29 hh (fun h6 H locs _ hh hm hs => ?_)
    refine r_aload_n C.1 C.2.1 dX8_takeSign_32 rfl (lv_at hl 0 rfl) ?_
    refine r_aload_n C.1 C.2.1 dX8_takeSign_33 rfl (lv_at hl 0 rfl) ?_
    refine r_getI C hm flX8_121 dX8_takeSign_34 hh (fun x7 _ hh => ?_)
    refine lv_bipush (v := 59) C.1 C.2.1 dX8_takeSign_37 (by decide) ?_
    refine lv_icmp_eq (tgt := 78) C.1 C.2.1 dX8_takeSign_39 (by decide) (fun c16 => ?_) (fun c16 => ?_)
    · rw [if_pos c16] at hh
      exact B78 _ _ _ _ _  hm hs (lv_sub hl [] rfl) hh
    · rw [if_neg c16] at hh
      refine r_aload_n C.1 C.2.1 dX8_takeSign_42 rfl (lv_at hl 0 rfl) ?_
      refine r_getI C hm flX8_121 dX8_takeSign_43 hh (fun x8 _ hh => ?_)
      refine lv_bipush (v := 44) C.1 C.2.1 dX8_takeSign_46 (by decide) ?_
      refine lv_icmp_eq (tgt := 78) C.1 C.2.1 dX8_takeSign_48 (by decide) (fun c15 => ?_) (fun c15 => ?_)
      · rw [if_pos c15] at hh
        exact B78 _ _ _ _ _  hm hs (lv_sub hl [] rfl) hh
      · rw [if_neg c15] at hh
        refine r_aload_n C.1 C.2.1 dX8_takeSign_51 rfl (lv_at hl 0 rfl) ?_
        refine r_getI C hm flX8_121 dX8_takeSign_52 hh (fun x9 _ hh => ?_)
        refine lv_bipush (v := 61) C.1 C.2.1 dX8_takeSign_55 (by decide) ?_
        refine lv_icmp_eq (tgt := 78) C.1 C.2.1 dX8_takeSign_57 (by decide) (fun c14 => ?_) (fun c14 => ?_)
        · rw [if_pos c14] at hh
          exact B78 _ _ _ _ _  hm hs (lv_sub hl [] rfl) hh
        · rw [if_neg c14] at hh
          refine r_aload_n C.1 C.2.1 dX8_takeSign_60 rfl (lv_at hl 0 rfl) ?_
          refine r_getI C hm flX8_121 dX8_takeSign_61 hh (fun x10 _ hh => ?_)
          refine lv_bipush (v := 60) C.1 C.2.1 dX8_takeSign_64 (by decide) ?_
          refine lv_icmp_eq (tgt := 78) C.1 C.2.1 dX8_takeSign_66 (by decide) (fun c13 => ?_) (fun c13 => ?_)
          · rw [if_pos c13] at hh
            exact B78 _ _ _ _ _  hm hs (lv_sub hl [] rfl) hh
          · rw [if_neg c13] at hh
            refine r_aload_n C.1 C.2.1 dX8_takeSign_69 rfl (lv_at hl 0 rfl) ?_
            refine r_getI C hm flX8_121 dX8_takeSign_70 hh (fun x11 _ hh => ?_)
            refine lv_bipush (v := 62) C.1 C.2.1 dX8_takeSign_73 (by decide) ?_
            refine lv_icmp_ne (tgt := 82) C.1 C.2.1 dX8_takeSign_75 (by decide) (fun c12 => ?_) (fun c12 => ?_)
            · rw [if_neg c12] at hh
              refine lv_iconst (v := 4) C.1 C.2.1 dX8_takeSign_82 (by decide) ?_
              exact B83 _ _ _ _ _ _  hm hs (lv_sub hl [] rfl) hh
            · rw [if_pos c12] at hh
              exact B78 _ _ _ _ _  hm hs (lv_sub hl [] rfl) hh
  · rw [if_neg c18] at hh
    refine r_aload_n C.1 C.2.1 dX8_takeSign_11 rfl (lv_at hl 0 rfl) ?_
    refine lv_iconst (v := 0) C.1 C.2.1 dX8_takeSign_12 (by decide) ?_
    refine r_putI C hm hs flX8_32 (Or.inl fm_9_5) dX8_takeSign_13 hh (fun h17 H locs _ hh hm hs => ?_)
    exact r_vretW hQ C hr hm hs hh dX8_takeSign_16
def mX8_step_b218 (h : MHp) (t0 : Option Nat) (t1 : Int32) : Option (MHp) := (pI 9 5 h t0 t1).bind fun h1 => some h1
def mX8_step_b239 (h : MHp) (t0 : Option Nat) (t1 : Int32) : Option (MHp) := (pI 9 5 h t0 t1).bind fun h2 => some h2
def mX8_step_b201 (h : MHp) (a0 : Nat) (v1 : Int32) (t0 : Int32) : Option (MHp) := (if v1 ≤ 0 then (if t0 ≤ 0 then (gI 9 2 h (some a0)).bind fun x3 => (rcv 9 h (some a0)).bind fun b5 => (mX8_byteAt h b5 x3).bind fun r4 => (rcv 9 h (some a0)).bind fun b7 => (mX8_takeSign h b7 r4).bind fun r6 => some r6 else (if 4 < t0 then mX8_step_b239 h (some a0) 4 else mX8_step_b239 h (some a0) 2)) else (if 8 < v1 then mX8_step_b218 h (some a0) 4 else mX8_step_b218 h (some a0) 1))
def mX8_step_b184 (h : MHp) (a0 : Nat) (v1 : Int32) : Option (MHp) := (if v1 ≤ 0 then (gI 9 4 h (some a0)).bind fun x12 => (gI 9 2 h (some a0)).bind fun x13 => mX8_step_b201 h a0 v1 (x12 - x13) else mX8_step_b201 h a0 v1 0)
def mX8_step_l132 : Nat → MHp → Nat → Int32 → Int32 → Option (MHp)
  | 0, _, _, _, _ => none
  | n + 1, h, a0, v1, v2 => (gI 9 3 h (some a0)).bind fun x15 => (if x15 ≤ v2 then mX8_step_b184 h a0 v1 else (rcv 9 h (some a0)).bind fun b17 => (mX8_byteAt h b17 v2).bind fun r16 => (mX8_isDigit h r16).bind fun r18 => (if r18 = 0 then mX8_step_b184 h a0 v1 else (gI 9 6 h (some a0)).bind fun x19 => (rcv 9 h (some a0)).bind fun b21 => (mX8_byteAt h b21 v2).bind fun r20 => (pI 9 6 h (some a0) (((x19 * 10) + r20) - 48)).bind fun h22 => (pI 9 4 h22 (some a0) (v2 + 1)).bind fun h23 => mX8_step_l132 n h23 a0 v1 (v2 + 1)))
def mX8_step_b117 (h : MHp) (a0 : Nat) : Option (MHp) := (gI 9 4 h (some a0)).bind fun x26 => (gI 9 2 h (some a0)).bind fun x27 => (gI 9 2 h (some a0)).bind fun x28 => mX8_step_l132 FUEL h a0 (x26 - x27) x28
def mX8_step_l67 : Nat → MHp → Nat → Int32 → Option (MHp)
  | 0, _, _, _ => none
  | n + 1, h, a0, v1 => (gI 9 3 h (some a0)).bind fun x29 => (if x29 ≤ v1 then mX8_step_b117 h a0 else (rcv 9 h (some a0)).bind fun b31 => (mX8_byteAt h b31 v1).bind fun r30 => (mX8_isLetter h r30).bind fun r32 => (if r32 = 0 then mX8_step_b117 h a0 else (gL 9 7 h (some a0)).bind fun x33 => (rcv 9 h (some a0)).bind fun b35 => (mX8_byteAt h b35 v1).bind fun r34 => (pL 9 7 h (some a0) ((x33 <<< ((8 : Int32).toInt64 &&& 63)) ||| r34.toInt64)).bind fun h36 => (pI 9 4 h36 (some a0) (v1 + 1)).bind fun h37 => mX8_step_l67 n h37 a0 (v1 + 1)))
def mX8_step_b44 (h : MHp) (a0 : Nat) : Option (MHp) := (gI 9 2 h (some a0)).bind fun x40 => (pI 9 4 h (some a0) x40).bind fun h41 => (pI 9 6 h41 (some a0) 0).bind fun h42 => (pL 9 7 h42 (some a0) 0).bind fun h43 => (gI 9 2 h43 (some a0)).bind fun x44 => mX8_step_l67 FUEL h43 a0 x44
def mX8_step_l13 : Nat → MHp → Nat → Int32 → Option (MHp)
  | 0, _, _, _ => none
  | n + 1, h, a0, v1 => (gI 9 3 h (some a0)).bind fun x45 => (if x45 ≤ v1 then mX8_step_b44 h a0 else (rcv 9 h (some a0)).bind fun b47 => (mX8_byteAt h b47 v1).bind fun r46 => (if r46 = 32 then (pI 9 2 h (some a0) (v1 + 1)).bind fun h48 => mX8_step_l13 n h48 a0 (v1 + 1) else mX8_step_b44 h a0))
def mX8_step (h : MHp) (a0 : Nat) : Option (MHp) := (gI 9 4 h (some a0)).bind fun x51 => (pI 9 2 h (some a0) x51).bind fun h52 => (gI 9 4 h52 (some a0)).bind fun x53 => mX8_step_l13 FUEL h52 a0 x53
set_option maxRecDepth 100000 in
set_option maxHeartbeats 4000000 in
theorem c_X8_step (l : Launch) (G : Env0) (h : MHp) (a0 : Nat) (res : MHp) (hh : mX8_step h a0 = some res) : MG l yX8_step cX8_step 3 none 1 21 0 0 G h [.ref a0] (none) (res) := by
  refine MG_of (own := RX8) (plainFor_of_name (by decide)) rfl (Nat.le_of_ble_eq_true rfl) ?_
  intro p e s m args below meth c Q ls hQ C X hin hm hs hl hr
  have hl : lv_has ls 3 [(0, va_rf (some a0))] := hl
  have B218 : ∀ (h : MHp) (H : Heap) (locs : List Loc) (ls : Array Slot) (t0 : Option Nat) (t1 : Int32) , mHp (gD G) (gC G) (gB G) h H → va_S (fun q => gB G ≤ q) s.heap H locs → lv_has ls 3 [] → mX8_step_b218 h t0 t1 = some res → W p l e ({ frames := 1, cells := 0, slots := 0, locals := 21 }) s m args below meth c H locs 0 0 Q (F0 m 218 ls [.int t1, va_rf t0]) := by
    intro h H locs ls t0 t1 hm hs hl hh
    unfold mX8_step_b218 at hh
    refine r_putI C hm hs flX8_32 (Or.inl fm_9_5) dX8_step_218 hh (fun h1 H locs _ hh hm hs => ?_)
    refine lv_goto (tgt := 257) C.1 C.2.1 dX8_step_221 (by decide) ?_
    exact r_vretW hQ C hr hm hs hh dX8_step_257
  have B239 : ∀ (h : MHp) (H : Heap) (locs : List Loc) (ls : Array Slot) (t0 : Option Nat) (t1 : Int32) , mHp (gD G) (gC G) (gB G) h H → va_S (fun q => gB G ≤ q) s.heap H locs → lv_has ls 3 [] → mX8_step_b239 h t0 t1 = some res → W p l e ({ frames := 1, cells := 0, slots := 0, locals := 21 }) s m args below meth c H locs 0 0 Q (F0 m 239 ls [.int t1, va_rf t0]) := by
    intro h H locs ls t0 t1 hm hs hl hh
    unfold mX8_step_b239 at hh
    refine r_putI C hm hs flX8_32 (Or.inl fm_9_5) dX8_step_239 hh (fun h2 H locs _ hh hm hs => ?_)
    refine lv_goto (tgt := 257) C.1 C.2.1 dX8_step_242 (by decide) ?_
    exact r_vretW hQ C hr hm hs hh dX8_step_257
  have B201 : ∀ (h : MHp) (H : Heap) (locs : List Loc) (ls : Array Slot) (a0 : Nat) (v1 : Int32) (t0 : Int32) , mHp (gD G) (gC G) (gB G) h H → va_S (fun q => gB G ≤ q) s.heap H locs → lv_has ls 3 [(0, va_rf (some a0)), (1, .int v1)] → mX8_step_b201 h a0 v1 t0 = some res → W p l e ({ frames := 1, cells := 0, slots := 0, locals := 21 }) s m args below meth c H locs 0 0 Q (F0 m 201 ls [.int t0]) := by
    intro h H locs ls a0 v1 t0 hm hs hl hh
    unfold mX8_step_b201 at hh
    refine lv_istore_n (i := 2) (lv' := [(2, .int t0), (0, va_rf (some a0)), (1, .int v1)]) C.1 C.2.1 dX8_step_201 rfl hl (by decide) rfl (fun ls hl => ?_)
    refine lv_iload_n C.1 C.2.1 dX8_step_202 rfl (lv_at hl 2 rfl) ?_
    refine lv_if_le (tgt := 224) C.1 C.2.1 dX8_step_203 (by decide) (fun c11 => ?_) (fun c11 => ?_)
    · rw [if_pos c11] at hh
      refine lv_iload_n C.1 C.2.1 dX8_step_224 rfl (lv_at hl 0 rfl) ?_
      refine lv_if_le (tgt := 245) C.1 C.2.1 dX8_step_225 (by decide) (fun c9 => ?_) (fun c9 => ?_)
      · rw [if_pos c9] at hh
        refine r_aload_n C.1 C.2.1 dX8_step_245 rfl (lv_at hl 1 rfl) ?_
        refine r_aload_n C.1 C.2.1 dX8_step_246 rfl (lv_at hl 1 rfl) ?_
        refine r_aload_n C.1 C.2.1 dX8_step_247 rfl (lv_at hl 1 rfl) ?_
        refine r_getI C hm flX8_173 dX8_step_248 hh (fun x3 _ hh => ?_)
        refine r_cV C X hm hs mlX8_176 mvX8_176 hh (vv := fun r => some (.int r)) (hp := fun r => h) (fun b r hg => c_X8_byteAt l G h b _ r hg) rfl rfl (by simp [va_cat, vc_i, vc_l, vc_r]) (Nat.le_of_ble_eq_true rfl) (Nat.le_of_ble_eq_true rfl) hl.1 dX8_step_251 (fun b5 r4 H locs hgr4 hh hm hs => ?_)
        refine W.eq (g2 := F0 m 254 ls [.int r4, va_rf (some a0)]) rfl ?_
        refine r_cV C X hm hs mlX8_185 mvX8_185 hh (vv := fun r => none) (hp := fun r => r) (fun b r hg => c_X8_takeSign l G h b _ r hg) rfl rfl (Nat.le_of_ble_eq_true rfl) (Nat.le_of_ble_eq_true rfl) (Nat.le_of_ble_eq_true rfl) hl.1 dX8_step_254 (fun b7 r6 H locs hgr6 hh hm hs => ?_)
        refine W.eq (g2 := F0 m 257 ls []) rfl ?_
        exact r_vretW hQ C hr hm hs hh dX8_step_257
      · rw [if_neg c9] at hh
        refine r_aload_n C.1 C.2.1 dX8_step_228 rfl (lv_at hl 1 rfl) ?_
        refine lv_iload_n C.1 C.2.1 dX8_step_229 rfl (lv_at hl 0 rfl) ?_
        refine lv_iconst (v := 4) C.1 C.2.1 dX8_step_230 (by decide) ?_
        refine lv_icmp_gt (tgt := 238) C.1 C.2.1 dX8_step_231 (by decide) (fun c8 => ?_) (fun c8 => ?_)
        · rw [if_pos c8] at hh
          refine lv_iconst (v := 4) C.1 C.2.1 dX8_step_238 (by decide) ?_
          exact B239 _ _ _ _ _ _  hm hs (lv_sub hl [] rfl) hh
        · rw [if_neg c8] at hh
          refine lv_iconst (v := 2) C.1 C.2.1 dX8_step_234 (by decide) ?_
          refine lv_goto (tgt := 239) C.1 C.2.1 dX8_step_235 (by decide) ?_
          exact B239 _ _ _ _ _ _  hm hs (lv_sub hl [] rfl) hh
    · rw [if_neg c11] at hh
      refine r_aload_n C.1 C.2.1 dX8_step_206 rfl (lv_at hl 1 rfl) ?_
      refine lv_iload_n C.1 C.2.1 dX8_step_207 rfl (lv_at hl 2 rfl) ?_
      refine lv_bipush (v := 8) C.1 C.2.1 dX8_step_208 (by decide) ?_
      refine lv_icmp_gt (tgt := 217) C.1 C.2.1 dX8_step_210 (by decide) (fun c10 => ?_) (fun c10 => ?_)
      · rw [if_pos c10] at hh
        refine lv_iconst (v := 4) C.1 C.2.1 dX8_step_217 (by decide) ?_
        exact B218 _ _ _ _ _ _  hm hs (lv_sub hl [] rfl) hh
      · rw [if_neg c10] at hh
        refine lv_iconst (v := 1) C.1 C.2.1 dX8_step_213 (by decide) ?_
        refine lv_goto (tgt := 218) C.1 C.2.1 dX8_step_214 (by decide) ?_
        exact B218 _ _ _ _ _ _  hm hs (lv_sub hl [] rfl) hh
  have B184 : ∀ (h : MHp) (H : Heap) (locs : List Loc) (ls : Array Slot) (a0 : Nat) (v1 : Int32) , mHp (gD G) (gC G) (gB G) h H → va_S (fun q => gB G ≤ q) s.heap H locs → lv_has ls 3 [(0, va_rf (some a0)), (1, .int v1)] → mX8_step_b184 h a0 v1 = some res → W p l e ({ frames := 1, cells := 0, slots := 0, locals := 21 }) s m args below meth c H locs 0 0 Q (F0 m 184 ls []) := by
    intro h H locs ls a0 v1 hm hs hl hh
    unfold mX8_step_b184 at hh
    refine lv_iload_n C.1 C.2.1 dX8_step_184 rfl (lv_at hl 1 rfl) ?_
    refine lv_if_le (tgt := 192) C.1 C.2.1 dX8_step_185 (by decide) (fun c14 => ?_) (fun c14 => ?_)
    · rw [if_pos c14] at hh
      refine r_aload_n C.1 C.2.1 dX8_step_192 rfl (lv_at hl 0 rfl) ?_
      refine r_getI C hm flX8_82 dX8_step_193 hh (fun x12 _ hh => ?_)
      refine r_aload_n C.1 C.2.1 dX8_step_196 rfl (lv_at hl 0 rfl) ?_
      refine r_getI C hm flX8_173 dX8_step_197 hh (fun x13 _ hh => ?_)
      refine lv_isub C.1 C.2.1 dX8_step_200 ?_
      exact B201 _ _ _ _ _ _ _  hm hs (lv_sub hl [0, 1] rfl) hh
    · rw [if_neg c14] at hh
      refine lv_iconst (v := 0) C.1 C.2.1 dX8_step_188 (by decide) ?_
      refine lv_goto (tgt := 201) C.1 C.2.1 dX8_step_189 (by decide) ?_
      exact B201 _ _ _ _ _ _ _  hm hs (lv_sub hl [0, 1] rfl) hh
  have B132 : ∀ n : Nat, ∀ (h : MHp) (H : Heap) (locs : List Loc) (ls : Array Slot) (a0 : Nat) (v1 : Int32) (v2 : Int32) , mHp (gD G) (gC G) (gB G) h H → va_S (fun q => gB G ≤ q) s.heap H locs → lv_has ls 3 [(0, va_rf (some a0)), (1, .int v1), (2, .int v2)] → mX8_step_l132 n h a0 v1 v2 = some res → W p l e ({ frames := 1, cells := 0, slots := 0, locals := 21 }) s m args below meth c H locs 0 0 Q (F0 m 132 ls []) := by
    intro n
    induction n with
    | zero => intro h H locs ls a0 v1 v2 hm hs hl hh; cases hh
    | succ n ih =>
      intro h H locs ls a0 v1 v2 hm hs hl hh
      unfold mX8_step_l132 at hh
      refine lv_iload_n C.1 C.2.1 dX8_step_132 rfl (lv_at hl 2 rfl) ?_
      refine r_aload_n C.1 C.2.1 dX8_step_133 rfl (lv_at hl 0 rfl) ?_
      refine r_getI C hm flX8_79 dX8_step_134 hh (fun x15 _ hh => ?_)
      refine lv_icmp_ge (tgt := 184) C.1 C.2.1 dX8_step_137 (by decide) (fun c25 => ?_) (fun c25 => ?_)
      · rw [if_pos c25] at hh
        exact B184 _ _ _ _ _ _  hm hs (lv_sub hl [0, 1] rfl) hh
      · rw [if_neg c25] at hh
        refine r_aload_n C.1 C.2.1 dX8_step_140 rfl (lv_at hl 0 rfl) ?_
        refine lv_iload_n C.1 C.2.1 dX8_step_141 rfl (lv_at hl 2 rfl) ?_
        refine r_cV C X hm hs mlX8_176 mvX8_176 hh (vv := fun r => some (.int r)) (hp := fun r => h) (fun b r hg => c_X8_byteAt l G h b _ r hg) rfl rfl (Nat.le_of_ble_eq_true rfl) (Nat.le_of_ble_eq_true rfl) (Nat.le_of_ble_eq_true rfl) hl.1 dX8_step_142 (fun b17 r16 H locs hgr16 hh hm hs => ?_)
        refine W.eq (g2 := F0 m 145 ls [.int r16]) rfl ?_
        refine r_cS C X hm hs mlX8_182 msX8_182 hh (vv := fun r => some (.int r)) (hp := fun r => h) (fun r hg => c_X8_isDigit l G h _ r hg) rfl rfl (Nat.le_of_ble_eq_true rfl) (Nat.le_of_ble_eq_true rfl) (Nat.le_of_ble_eq_true rfl) hl.1 dX8_step_145 (fun r18 H locs hgr18 hh hm hs => ?_)
        refine W.eq (g2 := F0 m 148 ls [.int r18]) rfl ?_
        refine lv_if_eq (tgt := 184) C.1 C.2.1 dX8_step_148 (by decide) (fun c24 => ?_) (fun c24 => ?_)
        · rw [if_pos c24] at hh
          exact B184 _ _ _ _ _ _  hm hs (lv_sub hl [0, 1] rfl) hh
        · rw [if_neg c24] at hh
          refine r_aload_n C.1 C.2.1 dX8_step_151 rfl (lv_at hl 0 rfl) ?_
          refine r_aload_n C.1 C.2.1 dX8_step_152 rfl (lv_at hl 0 rfl) ?_
          refine r_getI C hm flX8_121 dX8_step_153 hh (fun x19 _ hh => ?_)
          refine lv_bipush (v := 10) C.1 C.2.1 dX8_step_156 (by decide) ?_
          refine lv_imul C.1 C.2.1 dX8_step_158 ?_
          refine r_aload_n C.1 C.2.1 dX8_step_159 rfl (lv_at hl 0 rfl) ?_
          refine lv_iload_n C.1 C.2.1 dX8_step_160 rfl (lv_at hl 2 rfl) ?_
          refine r_cV C X hm hs mlX8_176 mvX8_176 hh (vv := fun r => some (.int r)) (hp := fun r => h) (fun b r hg => c_X8_byteAt l G h b _ r hg) rfl rfl (by simp [va_cat, vc_i, vc_l, vc_r]) (Nat.le_of_ble_eq_true rfl) (Nat.le_of_ble_eq_true rfl) hl.1 dX8_step_161 (fun b21 r20 H locs hgr20 hh hm hs => ?_)
          refine W.eq (g2 := F0 m 164 ls [.int r20, .int (x19 * 10), va_rf (some a0)]) rfl ?_
          refine lv_iadd C.1 C.2.1 dX8_step_164 ?_
          refine lv_bipush (v := 48) C.1 C.2.1 dX8_step_165 (by decide) ?_
          refine lv_isub C.1 C.2.1 dX8_step_167 ?_
          refine r_putI C hm hs flX8_121 (Or.inl fm_9_6) dX8_step_168 hh (fun h22 H locs _ hh hm hs => ?_)
          refine r_aload_n C.1 C.2.1 dX8_step_171 rfl (lv_at hl 0 rfl) ?_
          refine lv_iload_n C.1 C.2.1 dX8_step_172 rfl (lv_at hl 2 rfl) ?_
          refine lv_iconst (v := 1) C.1 C.2.1 dX8_step_173 (by decide) ?_
          refine lv_iadd C.1 C.2.1 dX8_step_174 ?_
          refine r_putI C hm hs flX8_82 (Or.inl fm_9_4) dX8_step_175 hh (fun h23 H locs _ hh hm hs => ?_)
          refine lv_iinc (v := (v2 + 1)) (lv' := [(2, .int (v2 + 1)), (0, va_rf (some a0)), (1, .int v1)]) C.1 C.2.1 dX8_step_178 hl (k := 2) rfl rfl (by decide) rfl (fun ls hl => ?_)
          refine lv_goto (tgt := 132) C.1 C.2.1 dX8_step_181 (by decide) ?_
          exact ih _ _ _ _ _ _ _  hm hs (lv_sub hl [1, 2, 0] rfl) hh
  have B117 : ∀ (h : MHp) (H : Heap) (locs : List Loc) (ls : Array Slot) (a0 : Nat) , mHp (gD G) (gC G) (gB G) h H → va_S (fun q => gB G ≤ q) s.heap H locs → lv_has ls 3 [(0, va_rf (some a0))] → mX8_step_b117 h a0 = some res → W p l e ({ frames := 1, cells := 0, slots := 0, locals := 21 }) s m args below meth c H locs 0 0 Q (F0 m 117 ls []) := by
    intro h H locs ls a0 hm hs hl hh
    unfold mX8_step_b117 at hh
    refine r_aload_n C.1 C.2.1 dX8_step_117 rfl (lv_at hl 0 rfl) ?_
    refine r_getI C hm flX8_82 dX8_step_118 hh (fun x26 _ hh => ?_)
    refine r_aload_n C.1 C.2.1 dX8_step_121 rfl (lv_at hl 0 rfl) ?_
    refine r_getI C hm flX8_173 dX8_step_122 hh (fun x27 _ hh => ?_)
    refine lv_isub C.1 C.2.1 dX8_step_125 ?_
    refine lv_istore_n (i := 1) (lv' := [(1, .int (x26 - x27)), (0, va_rf (some a0))]) C.1 C.2.1 dX8_step_126 rfl hl (by decide) (by simp [va_cat, vc_i, vc_l, vc_r]) (fun ls hl => ?_)
    refine r_aload_n C.1 C.2.1 dX8_step_127 rfl (lv_at hl 1 rfl) ?_
    refine r_getI C hm flX8_173 dX8_step_128 hh (fun x28 _ hh => ?_)
    refine lv_istore_n (i := 2) (lv' := [(2, .int x28), (1, .int (x26 - x27)), (0, va_rf (some a0))]) C.1 C.2.1 dX8_step_131 rfl hl (by decide) rfl (fun ls hl => ?_)
    exact B132 FUEL _ _ _ _ _ _ _  hm hs (lv_sub hl [2, 1, 0] rfl) hh
  have B67 : ∀ n : Nat, ∀ (h : MHp) (H : Heap) (locs : List Loc) (ls : Array Slot) (a0 : Nat) (v1 : Int32) , mHp (gD G) (gC G) (gB G) h H → va_S (fun q => gB G ≤ q) s.heap H locs → lv_has ls 3 [(0, va_rf (some a0)), (1, .int v1)] → mX8_step_l67 n h a0 v1 = some res → W p l e ({ frames := 1, cells := 0, slots := 0, locals := 21 }) s m args below meth c H locs 0 0 Q (F0 m 67 ls []) := by
    intro n
    induction n with
    | zero => intro h H locs ls a0 v1 hm hs hl hh; cases hh
    | succ n ih =>
      intro h H locs ls a0 v1 hm hs hl hh
      unfold mX8_step_l67 at hh
      refine lv_iload_n C.1 C.2.1 dX8_step_67 rfl (lv_at hl 1 rfl) ?_
      refine r_aload_n C.1 C.2.1 dX8_step_68 rfl (lv_at hl 0 rfl) ?_
      refine r_getI C hm flX8_79 dX8_step_69 hh (fun x29 _ hh => ?_)
      refine lv_icmp_ge (tgt := 117) C.1 C.2.1 dX8_step_72 (by decide) (fun c39 => ?_) (fun c39 => ?_)
      · rw [if_pos c39] at hh
        exact B117 _ _ _ _ _  hm hs (lv_sub hl [0] rfl) hh
      · rw [if_neg c39] at hh
        refine r_aload_n C.1 C.2.1 dX8_step_75 rfl (lv_at hl 0 rfl) ?_
        refine lv_iload_n C.1 C.2.1 dX8_step_76 rfl (lv_at hl 1 rfl) ?_
        refine r_cV C X hm hs mlX8_176 mvX8_176 hh (vv := fun r => some (.int r)) (hp := fun r => h) (fun b r hg => c_X8_byteAt l G h b _ r hg) rfl rfl (Nat.le_of_ble_eq_true rfl) (Nat.le_of_ble_eq_true rfl) (Nat.le_of_ble_eq_true rfl) hl.1 dX8_step_77 (fun b31 r30 H locs hgr30 hh hm hs => ?_)
        refine W.eq (g2 := F0 m 80 ls [.int r30]) rfl ?_
        refine r_cS C X hm hs mlX8_179 msX8_179 hh (vv := fun r => some (.int r)) (hp := fun r => h) (fun r hg => c_X8_isLetter l G h _ r hg) rfl rfl (Nat.le_of_ble_eq_true rfl) (Nat.le_of_ble_eq_true rfl) (Nat.le_of_ble_eq_true rfl) hl.1 dX8_step_80 (fun r32 H locs hgr32 hh hm hs => ?_)
        refine W.eq (g2 := F0 m 83 ls [.int r32]) rfl ?_
        refine lv_if_eq (tgt := 117) C.1 C.2.1 dX8_step_83 (by decide) (fun c38 => ?_) (fun c38 => ?_)
        · rw [if_pos c38] at hh
          exact B117 _ _ _ _ _  hm hs (lv_sub hl [0] rfl) hh
        · rw [if_neg c38] at hh
          refine r_aload_n C.1 C.2.1 dX8_step_86 rfl (lv_at hl 0 rfl) ?_
          refine r_aload_n C.1 C.2.1 dX8_step_87 rfl (lv_at hl 0 rfl) ?_
          refine r_getL C hm flX8_105 dX8_step_88 hh (fun x33 _ hh => ?_)
          refine lv_bipush (v := 8) C.1 C.2.1 dX8_step_91 (by decide) ?_
          refine lv_lshl (v := (x33 <<< ((8 : Int32).toInt64 &&& 63))) C.1 C.2.1 dX8_step_93 rfl ?_
          refine r_aload_n C.1 C.2.1 dX8_step_94 rfl (lv_at hl 0 rfl) ?_
          refine lv_iload_n C.1 C.2.1 dX8_step_95 rfl (lv_at hl 1 rfl) ?_
          refine r_cV C X hm hs mlX8_176 mvX8_176 hh (vv := fun r => some (.int r)) (hp := fun r => h) (fun b r hg => c_X8_byteAt l G h b _ r hg) rfl rfl (by simp [va_cat, vc_i, vc_l, vc_r]) (Nat.le_of_ble_eq_true rfl) (Nat.le_of_ble_eq_true rfl) hl.1 dX8_step_96 (fun b35 r34 H locs hgr34 hh hm hs => ?_)
          refine W.eq (g2 := F0 m 99 ls [.int r34, .long (x33 <<< ((8 : Int32).toInt64 &&& 63)), va_rf (some a0)]) rfl ?_
          refine lv_i2l (v := r34.toInt64) C.1 C.2.1 dX8_step_99 rfl ?_
          refine lv_lor C.1 C.2.1 dX8_step_100 ?_
          refine r_putL C hm hs flX8_105 (Or.inl fm_9_7) dX8_step_101 hh (fun h36 H locs _ hh hm hs => ?_)
          refine r_aload_n C.1 C.2.1 dX8_step_104 rfl (lv_at hl 0 rfl) ?_
          refine lv_iload_n C.1 C.2.1 dX8_step_105 rfl (lv_at hl 1 rfl) ?_
          refine lv_iconst (v := 1) C.1 C.2.1 dX8_step_106 (by decide) ?_
          refine lv_iadd C.1 C.2.1 dX8_step_107 ?_
          refine r_putI C hm hs flX8_82 (Or.inl fm_9_4) dX8_step_108 hh (fun h37 H locs _ hh hm hs => ?_)
          refine lv_iinc (v := (v1 + 1)) (lv' := [(1, .int (v1 + 1)), (0, va_rf (some a0))]) C.1 C.2.1 dX8_step_111 hl (k := 1) rfl rfl (by decide) (by simp [va_cat, vc_i, vc_l, vc_r]) (fun ls hl => ?_)
          refine lv_goto (tgt := 67) C.1 C.2.1 dX8_step_114 (by decide) ?_
          exact ih _ _ _ _ _ _  hm hs (lv_sub hl [1, 0] rfl) hh
  have B44 : ∀ (h : MHp) (H : Heap) (locs : List Loc) (ls : Array Slot) (a0 : Nat) , mHp (gD G) (gC G) (gB G) h H → va_S (fun q => gB G ≤ q) s.heap H locs → lv_has ls 3 [(0, va_rf (some a0))] → mX8_step_b44 h a0 = some res → W p l e ({ frames := 1, cells := 0, slots := 0, locals := 21 }) s m args below meth c H locs 0 0 Q (F0 m 44 ls []) := by
    intro h H locs ls a0 hm hs hl hh
    unfold mX8_step_b44 at hh
    refine r_aload_n C.1 C.2.1 dX8_step_44 rfl (lv_at hl 0 rfl) ?_
    refine r_aload_n C.1 C.2.1 dX8_step_45 rfl (lv_at hl 0 rfl) ?_
    refine r_getI C hm flX8_173 dX8_step_46 hh (fun x40 _ hh => ?_)
    refine r_putI C hm hs flX8_82 (Or.inl fm_9_4) dX8_step_49 hh (fun h41 H locs _ hh hm hs => ?_)
    refine r_aload_n C.1 C.2.1 dX8_step_52 rfl (lv_at hl 0 rfl) ?_
    refine lv_iconst (v := 0) C.1 C.2.1 dX8_step_53 (by decide) ?_
    refine r_putI C hm hs flX8_121 (Or.inl fm_9_6) dX8_step_54 hh (fun h42 H locs _ hh hm hs => ?_)
    refine r_aload_n C.1 C.2.1 dX8_step_57 rfl (lv_at hl 0 rfl) ?_
    refine lv_lconst (v := 0) C.1 C.2.1 dX8_step_58 (by decide) ?_
    refine r_putL C hm hs flX8_105 (Or.inl fm_9_7) dX8_step_59 hh (fun h43 H locs _ hh hm hs => ?_)
    refine r_aload_n C.1 C.2.1 dX8_step_62 rfl (lv_at hl 0 rfl) ?_
    refine r_getI C hm flX8_173 dX8_step_63 hh (fun x44 _ hh => ?_)
    refine lv_istore_n (i := 1) (lv' := [(1, .int x44), (0, va_rf (some a0))]) C.1 C.2.1 dX8_step_66 rfl hl (by decide) (by simp [va_cat, vc_i, vc_l, vc_r]) (fun ls hl => ?_)
    exact B67 FUEL _ _ _ _ _ _  hm hs (lv_sub hl [1, 0] rfl) hh
  have B13 : ∀ n : Nat, ∀ (h : MHp) (H : Heap) (locs : List Loc) (ls : Array Slot) (a0 : Nat) (v1 : Int32) , mHp (gD G) (gC G) (gB G) h H → va_S (fun q => gB G ≤ q) s.heap H locs → lv_has ls 3 [(0, va_rf (some a0)), (1, .int v1)] → mX8_step_l13 n h a0 v1 = some res → W p l e ({ frames := 1, cells := 0, slots := 0, locals := 21 }) s m args below meth c H locs 0 0 Q (F0 m 13 ls []) := by
    intro n
    induction n with
    | zero => intro h H locs ls a0 v1 hm hs hl hh; cases hh
    | succ n ih =>
      intro h H locs ls a0 v1 hm hs hl hh
      unfold mX8_step_l13 at hh
      refine lv_iload_n C.1 C.2.1 dX8_step_13 rfl (lv_at hl 1 rfl) ?_
      refine r_aload_n C.1 C.2.1 dX8_step_14 rfl (lv_at hl 0 rfl) ?_
      refine r_getI C hm flX8_79 dX8_step_15 hh (fun x45 _ hh => ?_)
      refine lv_icmp_ge (tgt := 44) C.1 C.2.1 dX8_step_18 (by decide) (fun c50 => ?_) (fun c50 => ?_)
      · rw [if_pos c50] at hh
        exact B44 _ _ _ _ _  hm hs (lv_sub hl [0] rfl) hh
      · rw [if_neg c50] at hh
        refine r_aload_n C.1 C.2.1 dX8_step_21 rfl (lv_at hl 0 rfl) ?_
        refine lv_iload_n C.1 C.2.1 dX8_step_22 rfl (lv_at hl 1 rfl) ?_
        refine r_cV C X hm hs mlX8_176 mvX8_176 hh (vv := fun r => some (.int r)) (hp := fun r => h) (fun b r hg => c_X8_byteAt l G h b _ r hg) rfl rfl (Nat.le_of_ble_eq_true rfl) (Nat.le_of_ble_eq_true rfl) (Nat.le_of_ble_eq_true rfl) hl.1 dX8_step_23 (fun b47 r46 H locs hgr46 hh hm hs => ?_)
        refine W.eq (g2 := F0 m 26 ls [.int r46]) rfl ?_
        refine lv_bipush (v := 32) C.1 C.2.1 dX8_step_26 (by decide) ?_
        refine lv_icmp_ne (tgt := 44) C.1 C.2.1 dX8_step_28 (by decide) (fun c49 => ?_) (fun c49 => ?_)
        · rw [if_neg c49] at hh
          exact B44 _ _ _ _ _  hm hs (lv_sub hl [0] rfl) hh
        · rw [if_pos c49] at hh
          refine r_aload_n C.1 C.2.1 dX8_step_31 rfl (lv_at hl 0 rfl) ?_
          refine lv_iload_n C.1 C.2.1 dX8_step_32 rfl (lv_at hl 1 rfl) ?_
          refine lv_iconst (v := 1) C.1 C.2.1 dX8_step_33 (by decide) ?_
          refine lv_iadd C.1 C.2.1 dX8_step_34 ?_
          refine r_putI C hm hs flX8_173 (Or.inl fm_9_2) dX8_step_35 hh (fun h48 H locs _ hh hm hs => ?_)
          refine lv_iinc (v := (v1 + 1)) (lv' := [(1, .int (v1 + 1)), (0, va_rf (some a0))]) C.1 C.2.1 dX8_step_38 hl (k := 1) rfl rfl (by decide) (by simp [va_cat, vc_i, vc_l, vc_r]) (fun ls hl => ?_)
          refine lv_goto (tgt := 13) C.1 C.2.1 dX8_step_41 (by decide) ?_
          exact ih _ _ _ _ _ _  hm hs (lv_sub hl [1, 0] rfl) hh
  unfold mX8_step at hh
  refine r_aload_n C.1 C.2.1 dX8_step_0 rfl (lv_at hl 0 rfl) ?_
  refine r_aload_n C.1 C.2.1 dX8_step_1 rfl (lv_at hl 0 rfl) ?_
  refine r_getI C hm flX8_82 dX8_step_2 hh (fun x51 _ hh => ?_)
  refine r_putI C hm hs flX8_173 (Or.inl fm_9_2) dX8_step_5 hh (fun h52 H locs _ hh hm hs => ?_)
  refine r_aload_n C.1 C.2.1 dX8_step_8 rfl (lv_at hl 0 rfl) ?_
  refine r_getI C hm flX8_82 dX8_step_9 hh (fun x53 _ hh => ?_)
  refine lv_istore_n (i := 1) (lv' := [(1, .int x53), (0, va_rf (some a0))]) C.1 C.2.1 dX8_step_12 rfl hl (by decide) (by simp [va_cat, vc_i, vc_l, vc_r]) (fun ls hl => ?_)
  exact B13 FUEL _ _ _ _ _ _  hm hs (lv_sub hl [1, 0] rfl) hh
def mX8_begin (h : MHp) (a0 : Nat) (a1 : Int32) (a2 : Option Nat) : Option (MHp) := (pR 9 8 h (some a0) a2).bind fun h1 => (pI 9 1 h1 (some a0) 0).bind fun h2 => (gR 9 0 h2 (some a0)).bind fun x3 => (gN 22 h2 x3).bind fun x4 => (mJ9_min_7cf53 h2 a1 x4).bind fun r5 => (pI 9 3 h2 (some a0) r5).bind fun h6 => (pI 9 4 h6 (some a0) 0).bind fun h7 => (rcv 9 h7 (some a0)).bind fun b9 => (mX8_step h7 b9).bind fun r8 => some r8
set_option maxRecDepth 100000 in
set_option maxHeartbeats 4000000 in
theorem c_X8_begin (l : Launch) (G : Env0) (h : MHp) (a0 : Nat) (a1 : Int32) (a2 : Option Nat) (res : MHp) (hh : mX8_begin h a0 a1 a2 = some res) : MG l yX8_begin cX8_begin 3 none 2 43 0 0 G h [.ref a0, .int a1, va_rf a2] (none) (res) := by
  refine MG_of (own := RX8) (plainFor_of_name (by decide)) rfl (by simp [lg_sl, va_cat, vc_i, vc_l, vc_r]) ?_
  intro p e s m args below meth c Q ls hQ C X hin hm hs hl hr
  have hl : lv_has ls 3 [(0, .ref a0), (1, .int a1), (2, va_rf a2)] := by simpa [lv_args, va_cat, vc_i, vc_l, vc_r] using hl
  have hl : lv_has ls 3 [(0, va_rf (some a0)), (1, .int a1), (2, va_rf a2)] := hl
  unfold mX8_begin at hh
  refine r_aload_n C.1 C.2.1 dX8_begin_0 rfl (lv_at hl 0 rfl) ?_
  refine r_aload_n C.1 C.2.1 dX8_begin_1 rfl (lv_at hl 2 rfl) ?_
  refine r_putR C hm hs flX8_15 (Or.inl fm_9_8) dX8_begin_2 hh (fun h1 H locs _ hh hm hs => ?_)
  refine r_aload_n C.1 C.2.1 dX8_begin_5 rfl (lv_at hl 0 rfl) ?_
  refine lv_iconst (v := 0) C.1 C.2.1 dX8_begin_6 (by decide) ?_
  refine r_putI C hm hs flX8_70 (Or.inl fm_9_1) dX8_begin_7 hh (fun h2 H locs _ hh hm hs => ?_)
  refine r_aload_n C.1 C.2.1 dX8_begin_10 rfl (lv_at hl 0 rfl) ?_
  refine lv_iload_n C.1 C.2.1 dX8_begin_11 rfl (lv_at hl 1 rfl) ?_
  refine r_aload_n C.1 C.2.1 dX8_begin_12 rfl (lv_at hl 0 rfl) ?_
  refine r_getR C hm flX8_9 dX8_begin_13 hh (fun x3 _ hh => ?_)
  refine r_len C hm dX8_begin_16 (kd := 22) (by decide) hh (fun x4 _ hh => ?_)
  refine r_cS C X hm hs mlX8_73 msX8_73 hh (vv := fun r => some (.int r)) (hp := fun r => h2) (fun r hg => c_J9_min_7cf53 l G h2 _ _ r hg) rfl rfl (by simp [va_cat, vc_i, vc_l, vc_r]) (Nat.le_of_ble_eq_true rfl) (Nat.le_of_ble_eq_true rfl) hl.1 dX8_begin_17 (fun r5 H locs hgr5 hh hm hs => ?_)
  refine W.eq (g2 := F0 m 20 ls [.int r5, va_rf (some a0)]) rfl ?_
  refine r_putI C hm hs flX8_79 (Or.inl fm_9_3) dX8_begin_20 hh (fun h6 H locs _ hh hm hs => ?_)
  refine r_aload_n C.1 C.2.1 dX8_begin_23 rfl (lv_at hl 0 rfl) ?_
  refine lv_iconst (v := 0) C.1 C.2.1 dX8_begin_24 (by decide) ?_
  refine r_putI C hm hs flX8_82 (Or.inl fm_9_4) dX8_begin_25 hh (fun h7 H locs _ hh hm hs => ?_)
  refine r_aload_n C.1 C.2.1 dX8_begin_28 rfl (lv_at hl 0 rfl) ?_
  refine r_cV C X hm hs mlX8_43 mvX8_43 hh (vv := fun r => none) (hp := fun r => r) (fun b r hg => c_X8_step l G h7 b  r hg) rfl rfl (Nat.le_of_ble_eq_true rfl) (Nat.le_of_ble_eq_true rfl) (Nat.le_of_ble_eq_true rfl) hl.1 dX8_begin_29 (fun b9 r8 H locs hgr8 hh hm hs => ?_)
  refine W.eq (g2 := F0 m 32 ls []) rfl ?_
  exact r_vretW hQ C hr hm hs hh dX8_begin_32
def mX8_fail (h : MHp) (a0 : Nat) (a1 : Int32) : Option (Int32 × MHp) := (pI 9 1 h (some a0) a1).bind fun h1 => some (0, h1)
set_option maxRecDepth 100000 in
set_option maxHeartbeats 4000000 in
theorem c_X8_fail (l : Launch) (G : Env0) (h : MHp) (a0 : Nat) (a1 : Int32) (res : Int32 × MHp) (hh : mX8_fail h a0 a1 = some res) : MG l yX8_fail cX8_fail 2 (some .boolean) 0 0 0 0 G h [.ref a0, .int a1] (some (.int res.1)) (res.2) := by
  refine MG_of (own := RX8) (plainFor_of_name (by decide)) rfl (Nat.le_of_ble_eq_true rfl) ?_
  intro p e s m args below meth c Q ls hQ C X hin hm hs hl hr
  have hl : lv_has ls 2 [(0, va_rf (some a0)), (1, .int a1)] := hl
  unfold mX8_fail at hh
  refine r_aload_n C.1 C.2.1 dX8_fail_0 rfl (lv_at hl 0 rfl) ?_
  refine lv_iload_n C.1 C.2.1 dX8_fail_1 rfl (lv_at hl 1 rfl) ?_
  refine r_putI C hm hs flX8_70 (Or.inl fm_9_1) dX8_fail_2 hh (fun h1 H locs _ hh hm hs => ?_)
  refine lv_iconst (v := 0) C.1 C.2.1 dX8_fail_5 (by decide) ?_
  exact r_bretW hQ C hr hm hs (by decide) hh dX8_fail_6
def mX8_isSign (h : MHp) (a0 : Nat) (a1 : Int32) : Option (Int32) := (gI 9 5 h (some a0)).bind fun x1 => (if x1 = 3 then (gI 9 6 h (some a0)).bind fun x2 => (if x2 = a1 then some 1 else some 0) else some 0)
set_option maxRecDepth 100000 in
set_option maxHeartbeats 4000000 in
theorem c_X8_isSign (l : Launch) (G : Env0) (h : MHp) (a0 : Nat) (a1 : Int32) (res : Int32) (hh : mX8_isSign h a0 a1 = some res) : MG l yX8_isSign cX8_isSign 2 (some .boolean) 0 0 0 0 G h [.ref a0, .int a1] (some (.int res)) (h) := by
  refine MG_of (own := RX8) (plainFor_of_name (by decide)) rfl (Nat.le_of_ble_eq_true rfl) ?_
  intro p e s m args below meth c Q ls hQ C X hin hm hs hl hr
  have hl : lv_has ls 2 [(0, va_rf (some a0)), (1, .int a1)] := hl
  unfold mX8_isSign at hh
  refine r_aload_n C.1 C.2.1 dX8_isSign_0 rfl (lv_at hl 0 rfl) ?_
  refine r_getI C hm flX8_32 dX8_isSign_1 hh (fun x1 _ hh => ?_)
  refine lv_iconst (v := 3) C.1 C.2.1 dX8_isSign_4 (by decide) ?_
  refine lv_icmp_ne (tgt := 20) C.1 C.2.1 dX8_isSign_5 (by decide) (fun c4 => ?_) (fun c4 => ?_)
  · rw [if_neg c4] at hh
    refine lv_iconst (v := 0) C.1 C.2.1 dX8_isSign_20 (by decide) ?_
    exact r_bretP hQ C hr hm hs (by decide) hh dX8_isSign_21
  · rw [if_pos c4] at hh
    refine r_aload_n C.1 C.2.1 dX8_isSign_8 rfl (lv_at hl 0 rfl) ?_
    refine r_getI C hm flX8_121 dX8_isSign_9 hh (fun x2 _ hh => ?_)
    refine lv_iload_n C.1 C.2.1 dX8_isSign_12 rfl (lv_at hl 1 rfl) ?_
    refine lv_icmp_ne (tgt := 20) C.1 C.2.1 dX8_isSign_13 (by decide) (fun c3 => ?_) (fun c3 => ?_)
    · rw [if_neg c3] at hh
      refine lv_iconst (v := 0) C.1 C.2.1 dX8_isSign_20 (by decide) ?_
      exact r_bretP hQ C hr hm hs (by decide) hh dX8_isSign_21
    · rw [if_pos c3] at hh
      refine lv_iconst (v := 1) C.1 C.2.1 dX8_isSign_16 (by decide) ?_
      refine lv_goto (tgt := 21) C.1 C.2.1 dX8_isSign_17 (by decide) ?_
      exact r_bretP hQ C hr hm hs (by decide) hh dX8_isSign_21
def mX8_isWord (h : MHp) (a0 : Nat) (a1 : Int64) : Option (Int32) := (gI 9 5 h (some a0)).bind fun x1 => (if x1 = 1 then (gL 9 7 h (some a0)).bind fun x2 => (if (lg_cmp x2 a1) = 0 then some 1 else some 0) else some 0)
set_option maxRecDepth 100000 in
set_option maxHeartbeats 4000000 in
theorem c_X8_isWord (l : Launch) (G : Env0) (h : MHp) (a0 : Nat) (a1 : Int64) (res : Int32) (hh : mX8_isWord h a0 a1 = some res) : MG l yX8_isWord cX8_isWord 3 (some .boolean) 0 0 0 0 G h [.ref a0, .long a1] (some (.int res)) (h) := by
  refine MG_of (own := RX8) (plainFor_of_name (by decide)) rfl (Nat.le_of_ble_eq_true rfl) ?_
  intro p e s m args below meth c Q ls hQ C X hin hm hs hl hr
  have hl : lv_has ls 3 [(0, va_rf (some a0)), (1, .long a1)] := hl
  unfold mX8_isWord at hh
  refine r_aload_n C.1 C.2.1 dX8_isWord_0 rfl (lv_at hl 0 rfl) ?_
  refine r_getI C hm flX8_32 dX8_isWord_1 hh (fun x1 _ hh => ?_)
  refine lv_iconst (v := 1) C.1 C.2.1 dX8_isWord_4 (by decide) ?_
  refine lv_icmp_ne (tgt := 21) C.1 C.2.1 dX8_isWord_5 (by decide) (fun c4 => ?_) (fun c4 => ?_)
  · rw [if_neg c4] at hh
    refine lv_iconst (v := 0) C.1 C.2.1 dX8_isWord_21 (by decide) ?_
    exact r_bretP hQ C hr hm hs (by decide) hh dX8_isWord_22
  · rw [if_pos c4] at hh
    refine r_aload_n C.1 C.2.1 dX8_isWord_8 rfl (lv_at hl 0 rfl) ?_
    refine r_getL C hm flX8_105 dX8_isWord_9 hh (fun x2 _ hh => ?_)
    refine lv_lload_n C.1 C.2.1 dX8_isWord_12 rfl (lv_at hl 1 rfl) ?_
    refine W.lcmp C.1 C.2.1 dX8_isWord_13 ?_
    refine lv_if_ne (tgt := 21) C.1 C.2.1 dX8_isWord_14 (by decide) (fun c3 => ?_) (fun c3 => ?_)
    · rw [if_neg c3] at hh
      refine lv_iconst (v := 0) C.1 C.2.1 dX8_isWord_21 (by decide) ?_
      exact r_bretP hQ C hr hm hs (by decide) hh dX8_isWord_22
    · rw [if_pos c3] at hh
      refine lv_iconst (v := 1) C.1 C.2.1 dX8_isWord_17 (by decide) ?_
      refine lv_goto (tgt := 22) C.1 C.2.1 dX8_isWord_18 (by decide) ?_
      exact r_bretP hQ C hr hm hs (by decide) hh dX8_isWord_22
def mX8_isName (h : MHp) (a0 : Nat) : Option (Int32) := (gI 9 5 h (some a0)).bind fun x1 => (if x1 = 1 then (gL 9 7 h (some a0)).bind fun x2 => (if (lg_cmp x2 439854918756) = 0 then some 0 else (gL 9 7 h (some a0)).bind fun x3 => (if (lg_cmp x3 474148660594) = 0 then some 0 else (gL 9 7 h (some a0)).bind fun x4 => (if (lg_cmp x4 6385252) = 0 then some 0 else (gL 9 7 h (some a0)).bind fun x5 => (if (lg_cmp x5 427071729268) = 0 then some 0 else (gL 9 7 h (some a0)).bind fun x6 => (if (lg_cmp x6 7566701) = 0 then some 0 else (gL 9 7 h (some a0)).bind fun x7 => (if (lg_cmp x7 25209) = 0 then some 0 else (gL 9 7 h (some a0)).bind fun x8 => (if (lg_cmp x8 512852587109) = 0 then some 0 else some 1))))))) else some 0)
set_option maxRecDepth 100000 in
set_option maxHeartbeats 4000000 in
theorem c_X8_isName (l : Launch) (G : Env0) (h : MHp) (a0 : Nat) (res : Int32) (hh : mX8_isName h a0 = some res) : MG l yX8_isName cX8_isName 1 (some .boolean) 0 0 0 0 G h [.ref a0] (some (.int res)) (h) := by
  refine MG_of (own := RX8) (plainFor_of_name (by decide)) rfl (Nat.le_of_ble_eq_true rfl) ?_
  intro p e s m args below meth c Q ls hQ C X hin hm hs hl hr
  have hl : lv_has ls 1 [(0, va_rf (some a0))] := hl
  unfold mX8_isName at hh
  refine r_aload_n C.1 C.2.1 dX8_isName_0 rfl (lv_at hl 0 rfl) ?_
  refine r_getI C hm flX8_32 dX8_isName_1 hh (fun x1 _ hh => ?_)
  refine lv_iconst (v := 1) C.1 C.2.1 dX8_isName_4 (by decide) ?_
  refine lv_icmp_ne (tgt := 89) C.1 C.2.1 dX8_isName_5 (by decide) (fun c16 => ?_) (fun c16 => ?_)
  · rw [if_neg c16] at hh
    refine lv_iconst (v := 0) C.1 C.2.1 dX8_isName_89 (by decide) ?_
    exact r_bretP hQ C hr hm hs (by decide) hh dX8_isName_90
  · rw [if_pos c16] at hh
    refine r_aload_n C.1 C.2.1 dX8_isName_8 rfl (lv_at hl 0 rfl) ?_
    refine r_getL C hm flX8_105 dX8_isName_9 hh (fun x2 _ hh => ?_)
    refine lv_ldc2 (v := 439854918756) C.1 C.2.1 C.2.2.2.1 (C.2.2.2.2.1 _ (in_tbl q_507 rfl)) dX8_isName_12 ?_
    refine W.lcmp C.1 C.2.1 dX8_isName_15 ?_
    refine lv_if_eq (tgt := 89) C.1 C.2.1 dX8_isName_16 (by decide) (fun c15 => ?_) (fun c15 => ?_)
    · rw [if_pos c15] at hh
      refine lv_iconst (v := 0) C.1 C.2.1 dX8_isName_89 (by decide) ?_
      exact r_bretP hQ C hr hm hs (by decide) hh dX8_isName_90
    · rw [if_neg c15] at hh
      refine r_aload_n C.1 C.2.1 dX8_isName_19 rfl (lv_at hl 0 rfl) ?_
      refine r_getL C hm flX8_105 dX8_isName_20 hh (fun x3 _ hh => ?_)
      refine lv_ldc2 (v := 474148660594) C.1 C.2.1 C.2.2.2.1 (C.2.2.2.2.1 _ (in_tbl q_520 rfl)) dX8_isName_23 ?_
      refine W.lcmp C.1 C.2.1 dX8_isName_26 ?_
      refine lv_if_eq (tgt := 89) C.1 C.2.1 dX8_isName_27 (by decide) (fun c14 => ?_) (fun c14 => ?_)
      · rw [if_pos c14] at hh
        refine lv_iconst (v := 0) C.1 C.2.1 dX8_isName_89 (by decide) ?_
        exact r_bretP hQ C hr hm hs (by decide) hh dX8_isName_90
      · rw [if_neg c14] at hh
        refine r_aload_n C.1 C.2.1 dX8_isName_30 rfl (lv_at hl 0 rfl) ?_
        refine r_getL C hm flX8_105 dX8_isName_31 hh (fun x4 _ hh => ?_)
        refine lv_ldc2 (v := 6385252) C.1 C.2.1 C.2.2.2.1 (C.2.2.2.2.1 _ (in_tbl q_521 rfl)) dX8_isName_34 ?_
        refine W.lcmp C.1 C.2.1 dX8_isName_37 ?_
        refine lv_if_eq (tgt := 89) C.1 C.2.1 dX8_isName_38 (by decide) (fun c13 => ?_) (fun c13 => ?_)
        · rw [if_pos c13] at hh
          refine lv_iconst (v := 0) C.1 C.2.1 dX8_isName_89 (by decide) ?_
          exact r_bretP hQ C hr hm hs (by decide) hh dX8_isName_90
        · rw [if_neg c13] at hh
          refine r_aload_n C.1 C.2.1 dX8_isName_41 rfl (lv_at hl 0 rfl) ?_
          refine r_getL C hm flX8_105 dX8_isName_42 hh (fun x5 _ hh => ?_)
          refine lv_ldc2 (v := 427071729268) C.1 C.2.1 C.2.2.2.1 (C.2.2.2.2.1 _ (in_tbl q_522 rfl)) dX8_isName_45 ?_
          refine W.lcmp C.1 C.2.1 dX8_isName_48 ?_
          refine lv_if_eq (tgt := 89) C.1 C.2.1 dX8_isName_49 (by decide) (fun c12 => ?_) (fun c12 => ?_)
          · rw [if_pos c12] at hh
            refine lv_iconst (v := 0) C.1 C.2.1 dX8_isName_89 (by decide) ?_
            exact r_bretP hQ C hr hm hs (by decide) hh dX8_isName_90
          · rw [if_neg c12] at hh
            refine r_aload_n C.1 C.2.1 dX8_isName_52 rfl (lv_at hl 0 rfl) ?_
            refine r_getL C hm flX8_105 dX8_isName_53 hh (fun x6 _ hh => ?_)
            refine lv_ldc2 (v := 7566701) C.1 C.2.1 C.2.2.2.1 (C.2.2.2.2.1 _ (in_tbl q_523 rfl)) dX8_isName_56 ?_
            refine W.lcmp C.1 C.2.1 dX8_isName_59 ?_
            refine lv_if_eq (tgt := 89) C.1 C.2.1 dX8_isName_60 (by decide) (fun c11 => ?_) (fun c11 => ?_)
            · rw [if_pos c11] at hh
              refine lv_iconst (v := 0) C.1 C.2.1 dX8_isName_89 (by decide) ?_
              exact r_bretP hQ C hr hm hs (by decide) hh dX8_isName_90
            · rw [if_neg c11] at hh
              refine r_aload_n C.1 C.2.1 dX8_isName_63 rfl (lv_at hl 0 rfl) ?_
              refine r_getL C hm flX8_105 dX8_isName_64 hh (fun x7 _ hh => ?_)
              refine lv_ldc2 (v := 25209) C.1 C.2.1 C.2.2.2.1 (C.2.2.2.2.1 _ (in_tbl q_524 rfl)) dX8_isName_67 ?_
              refine W.lcmp C.1 C.2.1 dX8_isName_70 ?_
              refine lv_if_eq (tgt := 89) C.1 C.2.1 dX8_isName_71 (by decide) (fun c10 => ?_) (fun c10 => ?_)
              · rw [if_pos c10] at hh
                refine lv_iconst (v := 0) C.1 C.2.1 dX8_isName_89 (by decide) ?_
                exact r_bretP hQ C hr hm hs (by decide) hh dX8_isName_90
              · rw [if_neg c10] at hh
                refine r_aload_n C.1 C.2.1 dX8_isName_74 rfl (lv_at hl 0 rfl) ?_
                refine r_getL C hm flX8_105 dX8_isName_75 hh (fun x8 _ hh => ?_)
                refine lv_ldc2 (v := 512852587109) C.1 C.2.1 C.2.2.2.1 (C.2.2.2.2.1 _ (in_tbl q_525 rfl)) dX8_isName_78 ?_
                refine W.lcmp C.1 C.2.1 dX8_isName_81 ?_
                refine lv_if_eq (tgt := 89) C.1 C.2.1 dX8_isName_82 (by decide) (fun c9 => ?_) (fun c9 => ?_)
                · rw [if_pos c9] at hh
                  refine lv_iconst (v := 0) C.1 C.2.1 dX8_isName_89 (by decide) ?_
                  exact r_bretP hQ C hr hm hs (by decide) hh dX8_isName_90
                · rw [if_neg c9] at hh
                  refine lv_iconst (v := 1) C.1 C.2.1 dX8_isName_85 (by decide) ?_
                  refine lv_goto (tgt := 90) C.1 C.2.1 dX8_isName_86 (by decide) ?_
                  exact r_bretP hQ C hr hm hs (by decide) hh dX8_isName_90
def mX8_readDigitBehind (h : MHp) (a0 : Nat) (a1 : Int64) : Option (Int32 × MHp) := (rcv 9 h (some a0)).bind fun b2 => (mX8_isWord h b2 a1).bind fun r1 => (if r1 = 0 then (rcv 9 h (some a0)).bind fun b16 => (mX8_fail h b16 1).bind fun r15 => (rB r15.1).bind fun _ => some (r15.1, r15.2) else (rcv 9 h (some a0)).bind fun b4 => (mX8_step h b4).bind fun r3 => (gI 9 5 r3 (some a0)).bind fun x5 => (if x5 = 2 then (gI 9 6 r3 (some a0)).bind fun x6 => (mX11_isWithin r3 x6 1 9).bind fun r7 => (if r7 = 0 then (rcv 9 r3 (some a0)).bind fun b9 => (mX8_fail r3 b9 4).bind fun r8 => (if r8.1 = 0 then some (0, r8.2) else some (1, r8.2)) else some (1, r3)) else (rcv 9 r3 (some a0)).bind fun b13 => (mX8_fail r3 b13 1).bind fun r12 => (rB r12.1).bind fun _ => some (r12.1, r12.2)))
set_option maxRecDepth 100000 in
set_option maxHeartbeats 4000000 in
theorem c_X8_readDigitBehind (l : Launch) (G : Env0) (h : MHp) (a0 : Nat) (a1 : Int64) (res : Int32 × MHp) (hh : mX8_readDigitBehind h a0 a1 = some res) : MG l yX8_readDigitBehind cX8_readDigitBehind 3 (some .boolean) 2 43 0 0 G h [.ref a0, .long a1] (some (.int res.1)) (res.2) := by
  refine MG_of (own := RX8) (plainFor_of_name (by decide)) rfl (Nat.le_of_ble_eq_true rfl) ?_
  intro p e s m args below meth c Q ls hQ C X hin hm hs hl hr
  have hl : lv_has ls 3 [(0, va_rf (some a0)), (1, .long a1)] := hl
  unfold mX8_readDigitBehind at hh
  refine r_aload_n C.1 C.2.1 dX8_readDigitBehind_0 rfl (lv_at hl 0 rfl) ?_
  refine lv_lload_n C.1 C.2.1 dX8_readDigitBehind_1 rfl (lv_at hl 1 rfl) ?_
  refine r_cV C X hm hs mlX8_58 mvX8_58 hh (vv := fun r => some (.int r)) (hp := fun r => h) (fun b r hg => c_X8_isWord l G h b _ r hg) rfl rfl (Nat.le_of_ble_eq_true rfl) (Nat.le_of_ble_eq_true rfl) (Nat.le_of_ble_eq_true rfl) hl.1 dX8_readDigitBehind_2 (fun b2 r1 H locs hgr1 hh hm hs => ?_)
  refine W.eq (g2 := F0 m 5 ls [.int r1]) rfl ?_
  refine lv_if_ne (tgt := 14) C.1 C.2.1 dX8_readDigitBehind_5 (by decide) (fun c17 => ?_) (fun c17 => ?_)
  · rw [if_neg c17] at hh
    refine r_aload_n C.1 C.2.1 dX8_readDigitBehind_14 rfl (lv_at hl 0 rfl) ?_
    refine r_cV C X hm hs mlX8_43 mvX8_43 hh (vv := fun r => none) (hp := fun r => r) (fun b r hg => c_X8_step l G h b  r hg) rfl rfl (Nat.le_of_ble_eq_true rfl) (Nat.le_of_ble_eq_true rfl) (Nat.le_of_ble_eq_true rfl) hl.1 dX8_readDigitBehind_15 (fun b4 r3 H locs hgr3 hh hm hs => ?_)
    refine W.eq (g2 := F0 m 18 ls []) rfl ?_
    refine r_aload_n C.1 C.2.1 dX8_readDigitBehind_18 rfl (lv_at hl 0 rfl) ?_
    refine r_getI C hm flX8_32 dX8_readDigitBehind_19 hh (fun x5 _ hh => ?_)
    refine lv_iconst (v := 2) C.1 C.2.1 dX8_readDigitBehind_22 (by decide) ?_
    refine lv_icmp_eq (tgt := 32) C.1 C.2.1 dX8_readDigitBehind_23 (by decide) (fun c14 => ?_) (fun c14 => ?_)
    · rw [if_pos c14] at hh
      refine r_aload_n C.1 C.2.1 dX8_readDigitBehind_32 rfl (lv_at hl 0 rfl) ?_
      refine r_getI C hm flX8_121 dX8_readDigitBehind_33 hh (fun x6 _ hh => ?_)
      refine lv_iconst (v := 1) C.1 C.2.1 dX8_readDigitBehind_36 (by decide) ?_
      refine lv_bipush (v := 9) C.1 C.2.1 dX8_readDigitBehind_37 (by decide) ?_
      refine r_cS C X hm hs mlX8_133 msX8_133 hh (vv := fun r => some (.int r)) (hp := fun r => r3) (fun r hg => c_X11_isWithin l G r3 _ _ _ r hg) rfl rfl (Nat.le_of_ble_eq_true rfl) (Nat.le_of_ble_eq_true rfl) (Nat.le_of_ble_eq_true rfl) hl.1 dX8_readDigitBehind_39 (fun r7 H locs hgr7 hh hm hs => ?_)
      refine W.eq (g2 := F0 m 42 ls [.int r7]) rfl ?_
      refine lv_if_ne (tgt := 53) C.1 C.2.1 dX8_readDigitBehind_42 (by decide) (fun c11 => ?_) (fun c11 => ?_)
      · rw [if_neg c11] at hh
        refine lv_iconst (v := 1) C.1 C.2.1 dX8_readDigitBehind_53 (by decide) ?_
        refine lv_goto (tgt := 58) C.1 C.2.1 dX8_readDigitBehind_54 (by decide) ?_
        exact r_bretW hQ C hr hm hs (by decide) hh dX8_readDigitBehind_58
      · rw [if_pos c11] at hh
        refine r_aload_n C.1 C.2.1 dX8_readDigitBehind_45 rfl (lv_at hl 0 rfl) ?_
        refine lv_iconst (v := 4) C.1 C.2.1 dX8_readDigitBehind_46 (by decide) ?_
        refine r_cV C X hm hs mlX8_40 mvX8_40 hh (vv := fun r => some (.int r.1)) (hp := fun r => r.2) (fun b r hg => c_X8_fail l G r3 b _ r hg) rfl rfl (Nat.le_of_ble_eq_true rfl) (Nat.le_of_ble_eq_true rfl) (Nat.le_of_ble_eq_true rfl) hl.1 dX8_readDigitBehind_47 (fun b9 r8 H locs hgr8 hh hm hs => ?_)
        refine W.eq (g2 := F0 m 50 ls [.int r8.1]) rfl ?_
        refine lv_if_eq (tgt := 57) C.1 C.2.1 dX8_readDigitBehind_50 (by decide) (fun c10 => ?_) (fun c10 => ?_)
        · rw [if_pos c10] at hh
          refine lv_iconst (v := 0) C.1 C.2.1 dX8_readDigitBehind_57 (by decide) ?_
          exact r_bretW hQ C hr hm hs (by decide) hh dX8_readDigitBehind_58
        · rw [if_neg c10] at hh
          refine lv_iconst (v := 1) C.1 C.2.1 dX8_readDigitBehind_53 (by decide) ?_
          refine lv_goto (tgt := 58) C.1 C.2.1 dX8_readDigitBehind_54 (by decide) ?_
          exact r_bretW hQ C hr hm hs (by decide) hh dX8_readDigitBehind_58
    · rw [if_neg c14] at hh
      refine r_aload_n C.1 C.2.1 dX8_readDigitBehind_26 rfl (lv_at hl 0 rfl) ?_
      refine lv_iconst (v := 1) C.1 C.2.1 dX8_readDigitBehind_27 (by decide) ?_
      refine r_cV C X hm hs mlX8_40 mvX8_40 hh (vv := fun r => some (.int r.1)) (hp := fun r => r.2) (fun b r hg => c_X8_fail l G r3 b _ r hg) rfl rfl (Nat.le_of_ble_eq_true rfl) (Nat.le_of_ble_eq_true rfl) (Nat.le_of_ble_eq_true rfl) hl.1 dX8_readDigitBehind_28 (fun b13 r12 H locs hgr12 hh hm hs => ?_)
      refine W.eq (g2 := F0 m 31 ls [.int r12.1]) rfl ?_
      exact r_rbretW hQ C hr hm hs hh dX8_readDigitBehind_31
  · rw [if_pos c17] at hh
    refine r_aload_n C.1 C.2.1 dX8_readDigitBehind_8 rfl (lv_at hl 0 rfl) ?_
    refine lv_iconst (v := 1) C.1 C.2.1 dX8_readDigitBehind_9 (by decide) ?_
    refine r_cV C X hm hs mlX8_40 mvX8_40 hh (vv := fun r => some (.int r.1)) (hp := fun r => r.2) (fun b r hg => c_X8_fail l G h b _ r hg) rfl rfl (Nat.le_of_ble_eq_true rfl) (Nat.le_of_ble_eq_true rfl) (Nat.le_of_ble_eq_true rfl) hl.1 dX8_readDigitBehind_10 (fun b16 r15 H locs hgr15 hh hm hs => ?_)
    refine W.eq (g2 := F0 m 13 ls [.int r15.1]) rfl ?_
    exact r_rbretW hQ C hr hm hs hh dX8_readDigitBehind_13
def mX8_readField (h : MHp) (a0 : Nat) : Option (Int32 × MHp) := (rcv 9 h (some a0)).bind fun b2 => (mX8_isName h b2).bind fun r1 => (if r1 = 0 then (rcv 9 h (some a0)).bind fun b39 => (mX8_fail h b39 1).bind fun r38 => (rB r38.1).bind fun _ => some (r38.1, r38.2) else (gR 9 8 h (some a0)).bind fun x3 => (gL 9 7 h (some a0)).bind fun x4 => (rcv 2 h x3).bind fun b6 => (mX1_fieldNamed h b6 x4).bind fun r5 => (if r5 = (-1) then (gR 9 8 h (some a0)).bind fun x7 => (gI 2 4 h x7).bind fun x8 => (if x8 < 6 then (gL 9 7 h (some a0)).bind fun x9 => (rcv 9 h (some a0)).bind fun b11 => (mX8_step h b11).bind fun r10 => (rcv 9 r10 (some a0)).bind fun b13 => (mX8_readDigitBehind r10 b13 7630704).bind fun r12 => (if r12.1 = 0 then some (0, r12.2) else (gI 9 6 r12.2 (some a0)).bind fun x14 => (gR 9 8 r12.2 (some a0)).bind fun x15 => (gI 2 6 r12.2 x15).bind fun x16 => (if (x16 * (x14 + 1)) ≤ 20000 then (rcv 9 r12.2 (some a0)).bind fun b18 => (mX8_step r12.2 b18).bind fun r17 => (rcv 9 r17 (some a0)).bind fun b20 => (mX8_readDigitBehind r17 b20 1668248436).bind fun r19 => (if r19.1 = 0 then some (0, r19.2) else (gR 9 8 r19.2 (some a0)).bind fun x21 => (gI 9 6 r19.2 (some a0)).bind fun x22 => (rcv 2 r19.2 x21).bind fun b24 => (mX1_addField r19.2 b24 x9 x14 x22).bind fun r23 => (rcv 9 r23 (some a0)).bind fun b26 => (mX8_step r23 b26).bind fun r25 => some (1, r25)) else (rcv 9 r12.2 (some a0)).bind fun b29 => (mX8_fail r12.2 b29 5).bind fun r28 => (rB r28.1).bind fun _ => some (r28.1, r28.2))) else (rcv 9 h (some a0)).bind fun b33 => (mX8_fail h b33 5).bind fun r32 => (rB r32.1).bind fun _ => some (r32.1, r32.2)) else (rcv 9 h (some a0)).bind fun b36 => (mX8_fail h b36 3).bind fun r35 => (rB r35.1).bind fun _ => some (r35.1, r35.2)))
set_option maxRecDepth 100000 in
set_option maxHeartbeats 4000000 in
theorem c_X8_readField (l : Launch) (G : Env0) (h : MHp) (a0 : Nat) (res : Int32 × MHp) (hh : mX8_readField h a0 = some res) : MG l yX8_readField cX8_readField 4 (some .boolean) 3 65 0 0 G h [.ref a0] (some (.int res.1)) (res.2) := by
  refine MG_of (own := RX8) (plainFor_of_name (by decide)) rfl (Nat.le_of_ble_eq_true rfl) ?_
  intro p e s m args below meth c Q ls hQ C X hin hm hs hl hr
  have hl : lv_has ls 4 [(0, va_rf (some a0))] := hl
  unfold mX8_readField at hh
  refine r_aload_n C.1 C.2.1 dX8_readField_0 rfl (lv_at hl 0 rfl) ?_
  refine r_cV C X hm hs mlX8_102 mvX8_102 hh (vv := fun r => some (.int r)) (hp := fun r => h) (fun b r hg => c_X8_isName l G h b  r hg) rfl rfl (Nat.le_of_ble_eq_true rfl) (Nat.le_of_ble_eq_true rfl) (Nat.le_of_ble_eq_true rfl) hl.1 dX8_readField_1 (fun b2 r1 H locs hgr1 hh hm hs => ?_)
  refine W.eq (g2 := F0 m 4 ls [.int r1]) rfl ?_
  refine lv_if_ne (tgt := 13) C.1 C.2.1 dX8_readField_4 (by decide) (fun c40 => ?_) (fun c40 => ?_)
  · rw [if_neg c40] at hh
    refine r_aload_n C.1 C.2.1 dX8_readField_13 rfl (lv_at hl 0 rfl) ?_
    refine r_getR C hm flX8_15 dX8_readField_14 hh (fun x3 _ hh => ?_)
    refine r_aload_n C.1 C.2.1 dX8_readField_17 rfl (lv_at hl 0 rfl) ?_
    refine r_getL C hm flX8_105 dX8_readField_18 hh (fun x4 _ hh => ?_)
    refine r_cV C X hm hs mlX8_109 mvX8_109 hh (vv := fun r => some (.int r)) (hp := fun r => h) (fun b r hg => c_X1_fieldNamed l G h b _ r hg) rfl rfl (Nat.le_of_ble_eq_true rfl) (Nat.le_of_ble_eq_true rfl) (Nat.le_of_ble_eq_true rfl) hl.1 dX8_readField_21 (fun b6 r5 H locs hgr5 hh hm hs => ?_)
    refine W.eq (g2 := F0 m 24 ls [.int r5]) rfl ?_
    refine lv_iconst (v := (-1)) C.1 C.2.1 dX8_readField_24 (by decide) ?_
    refine lv_icmp_eq (tgt := 34) C.1 C.2.1 dX8_readField_25 (by decide) (fun c37 => ?_) (fun c37 => ?_)
    · rw [if_pos c37] at hh
      refine r_aload_n C.1 C.2.1 dX8_readField_34 rfl (lv_at hl 0 rfl) ?_
      refine r_getR C hm flX8_15 dX8_readField_35 hh (fun x7 _ hh => ?_)
      refine r_getI C hm flX8_113 dX8_readField_38 hh (fun x8 _ hh => ?_)
      refine lv_bipush (v := 6) C.1 C.2.1 dX8_readField_41 (by decide) ?_
      refine lv_icmp_lt (tgt := 52) C.1 C.2.1 dX8_readField_43 (by decide) (fun c34 => ?_) (fun c34 => ?_)
      · rw [if_pos c34] at hh
        refine r_aload_n C.1 C.2.1 dX8_readField_52 rfl (lv_at hl 0 rfl) ?_
        refine r_getL C hm flX8_105 dX8_readField_53 hh (fun x9 _ hh => ?_)
        refine lv_lstore_n (i := 1) (lv' := [(1, .long x9), (0, va_rf (some a0))]) C.1 C.2.1 dX8_readField_56 rfl hl (by decide) (by simp [va_cat, vc_i, vc_l, vc_r]) (fun ls hl => ?_)
        refine r_aload_n C.1 C.2.1 dX8_readField_57 rfl (lv_at hl 1 rfl) ?_
        refine r_cV C X hm hs mlX8_43 mvX8_43 hh (vv := fun r => none) (hp := fun r => r) (fun b r hg => c_X8_step l G h b  r hg) rfl rfl (Nat.le_of_ble_eq_true rfl) (Nat.le_of_ble_eq_true rfl) (Nat.le_of_ble_eq_true rfl) hl.1 dX8_readField_58 (fun b11 r10 H locs hgr10 hh hm hs => ?_)
        refine W.eq (g2 := F0 m 61 ls []) rfl ?_
        refine r_aload_n C.1 C.2.1 dX8_readField_61 rfl (lv_at hl 1 rfl) ?_
        refine lv_ldc2 (v := 7630704) C.1 C.2.1 C.2.2.2.1 (C.2.2.2.2.1 _ (in_tbl q_534 rfl)) dX8_readField_62 ?_
        refine r_cV C X hm hs mlX8_118 mvX8_118 hh (vv := fun r => some (.int r.1)) (hp := fun r => r.2) (fun b r hg => c_X8_readDigitBehind l G r10 b _ r hg) rfl rfl (Nat.le_of_ble_eq_true rfl) (Nat.le_of_ble_eq_true rfl) (Nat.le_of_ble_eq_true rfl) hl.1 dX8_readField_65 (fun b13 r12 H locs hgr12 hh hm hs => ?_)
        refine W.eq (g2 := F0 m 68 ls [.int r12.1]) rfl ?_
        refine lv_if_ne (tgt := 73) C.1 C.2.1 dX8_readField_68 (by decide) (fun c31 => ?_) (fun c31 => ?_)
        · rw [if_neg c31] at hh
          refine r_aload_n C.1 C.2.1 dX8_readField_73 rfl (lv_at hl 1 rfl) ?_
          refine r_getI C hm flX8_121 dX8_readField_74 hh (fun x14 _ hh => ?_)
          refine lv_istore_n (i := 3) (lv' := [(3, .int x14), (1, .long x9), (0, va_rf (some a0))]) C.1 C.2.1 dX8_readField_77 rfl hl (by decide) rfl (fun ls hl => ?_)
          refine r_aload_n C.1 C.2.1 dX8_readField_78 rfl (lv_at hl 2 rfl) ?_
          refine r_getR C hm flX8_15 dX8_readField_79 hh (fun x15 _ hh => ?_)
          refine r_getI C hm flX8_124 dX8_readField_82 hh (fun x16 _ hh => ?_)
          refine lv_iload_n C.1 C.2.1 dX8_readField_85 rfl (lv_at hl 0 rfl) ?_
          refine lv_iconst (v := 1) C.1 C.2.1 dX8_readField_86 (by decide) ?_
          refine lv_iadd C.1 C.2.1 dX8_readField_87 ?_
          refine lv_imul C.1 C.2.1 dX8_readField_88 ?_
          refine lv_sipush (v := 20000) C.1 C.2.1 dX8_readField_89 (by decide) ?_
          refine lv_icmp_le (tgt := 101) C.1 C.2.1 dX8_readField_92 (by decide) (fun c30 => ?_) (fun c30 => ?_)
          · rw [if_pos c30] at hh
            refine r_aload_n C.1 C.2.1 dX8_readField_101 rfl (lv_at hl 2 rfl) ?_
            refine r_cV C X hm hs mlX8_43 mvX8_43 hh (vv := fun r => none) (hp := fun r => r) (fun b r hg => c_X8_step l G r12.2 b  r hg) rfl rfl (Nat.le_of_ble_eq_true rfl) (Nat.le_of_ble_eq_true rfl) (Nat.le_of_ble_eq_true rfl) hl.1 dX8_readField_102 (fun b18 r17 H locs hgr17 hh hm hs => ?_)
            refine W.eq (g2 := F0 m 105 ls []) rfl ?_
            refine r_aload_n C.1 C.2.1 dX8_readField_105 rfl (lv_at hl 2 rfl) ?_
            refine lv_ldc2 (v := 1668248436) C.1 C.2.1 C.2.2.2.1 (C.2.2.2.2.1 _ (in_tbl q_542 rfl)) dX8_readField_106 ?_
            refine r_cV C X hm hs mlX8_118 mvX8_118 hh (vv := fun r => some (.int r.1)) (hp := fun r => r.2) (fun b r hg => c_X8_readDigitBehind l G r17 b _ r hg) rfl rfl (Nat.le_of_ble_eq_true rfl) (Nat.le_of_ble_eq_true rfl) (Nat.le_of_ble_eq_true rfl) hl.1 dX8_readField_109 (fun b20 r19 H locs hgr19 hh hm hs => ?_)
            refine W.eq (g2 := F0 m 112 ls [.int r19.1]) rfl ?_
            refine lv_if_ne (tgt := 117) C.1 C.2.1 dX8_readField_112 (by decide) (fun c27 => ?_) (fun c27 => ?_)
            · rw [if_neg c27] at hh
              refine r_aload_n C.1 C.2.1 dX8_readField_117 rfl (lv_at hl 2 rfl) ?_
              refine r_getR C hm flX8_15 dX8_readField_118 hh (fun x21 _ hh => ?_)
              refine lv_lload_n C.1 C.2.1 dX8_readField_121 rfl (lv_at hl 1 rfl) ?_
              refine lv_iload_n C.1 C.2.1 dX8_readField_122 rfl (lv_at hl 0 rfl) ?_
              refine r_aload_n C.1 C.2.1 dX8_readField_123 rfl (lv_at hl 2 rfl) ?_
              refine r_getI C hm flX8_121 dX8_readField_124 hh (fun x22 _ hh => ?_)
              refine r_cV C X hm hs mlX8_129 mvX8_129 hh (vv := fun r => none) (hp := fun r => r) (fun b r hg => c_X1_addField l G r19.2 b _ _ _ r hg) rfl rfl (Nat.le_of_ble_eq_true rfl) (Nat.le_of_ble_eq_true rfl) (Nat.le_of_ble_eq_true rfl) hl.1 dX8_readField_127 (fun b24 r23 H locs hgr23 hh hm hs => ?_)
              refine W.eq (g2 := F0 m 130 ls []) rfl ?_
              refine r_aload_n C.1 C.2.1 dX8_readField_130 rfl (lv_at hl 2 rfl) ?_
              refine r_cV C X hm hs mlX8_43 mvX8_43 hh (vv := fun r => none) (hp := fun r => r) (fun b r hg => c_X8_step l G r23 b  r hg) rfl rfl (Nat.le_of_ble_eq_true rfl) (Nat.le_of_ble_eq_true rfl) (Nat.le_of_ble_eq_true rfl) hl.1 dX8_readField_131 (fun b26 r25 H locs hgr25 hh hm hs => ?_)
              refine W.eq (g2 := F0 m 134 ls []) rfl ?_
              refine lv_iconst (v := 1) C.1 C.2.1 dX8_readField_134 (by decide) ?_
              exact r_bretW hQ C hr hm hs (by decide) hh dX8_readField_135
            · rw [if_pos c27] at hh
              refine lv_iconst (v := 0) C.1 C.2.1 dX8_readField_115 (by decide) ?_
              exact r_bretW hQ C hr hm hs (by decide) hh dX8_readField_116
          · rw [if_neg c30] at hh
            refine r_aload_n C.1 C.2.1 dX8_readField_95 rfl (lv_at hl 2 rfl) ?_
            refine lv_iconst (v := 5) C.1 C.2.1 dX8_readField_96 (by decide) ?_
            refine r_cV C X hm hs mlX8_40 mvX8_40 hh (vv := fun r => some (.int r.1)) (hp := fun r => r.2) (fun b r hg => c_X8_fail l G r12.2 b _ r hg) rfl rfl (Nat.le_of_ble_eq_true rfl) (Nat.le_of_ble_eq_true rfl) (Nat.le_of_ble_eq_true rfl) hl.1 dX8_readField_97 (fun b29 r28 H locs hgr28 hh hm hs => ?_)
            refine W.eq (g2 := F0 m 100 ls [.int r28.1]) rfl ?_
            exact r_rbretW hQ C hr hm hs hh dX8_readField_100
        · rw [if_pos c31] at hh
          refine lv_iconst (v := 0) C.1 C.2.1 dX8_readField_71 (by decide) ?_
          exact r_bretW hQ C hr hm hs (by decide) hh dX8_readField_72
      · rw [if_neg c34] at hh
        refine r_aload_n C.1 C.2.1 dX8_readField_46 rfl (lv_at hl 0 rfl) ?_
        refine lv_iconst (v := 5) C.1 C.2.1 dX8_readField_47 (by decide) ?_
        refine r_cV C X hm hs mlX8_40 mvX8_40 hh (vv := fun r => some (.int r.1)) (hp := fun r => r.2) (fun b r hg => c_X8_fail l G h b _ r hg) rfl rfl (Nat.le_of_ble_eq_true rfl) (Nat.le_of_ble_eq_true rfl) (Nat.le_of_ble_eq_true rfl) hl.1 dX8_readField_48 (fun b33 r32 H locs hgr32 hh hm hs => ?_)
        refine W.eq (g2 := F0 m 51 ls [.int r32.1]) rfl ?_
        exact r_rbretW hQ C hr hm hs hh dX8_readField_51
    · rw [if_neg c37] at hh
      refine r_aload_n C.1 C.2.1 dX8_readField_28 rfl (lv_at hl 0 rfl) ?_
      refine lv_iconst (v := 3) C.1 C.2.1 dX8_readField_29 (by decide) ?_
      refine r_cV C X hm hs mlX8_40 mvX8_40 hh (vv := fun r => some (.int r.1)) (hp := fun r => r.2) (fun b r hg => c_X8_fail l G h b _ r hg) rfl rfl (Nat.le_of_ble_eq_true rfl) (Nat.le_of_ble_eq_true rfl) (Nat.le_of_ble_eq_true rfl) hl.1 dX8_readField_30 (fun b36 r35 H locs hgr35 hh hm hs => ?_)
      refine W.eq (g2 := F0 m 33 ls [.int r35.1]) rfl ?_
      exact r_rbretW hQ C hr hm hs hh dX8_readField_33
  · rw [if_pos c40] at hh
    refine r_aload_n C.1 C.2.1 dX8_readField_7 rfl (lv_at hl 0 rfl) ?_
    refine lv_iconst (v := 1) C.1 C.2.1 dX8_readField_8 (by decide) ?_
    refine r_cV C X hm hs mlX8_40 mvX8_40 hh (vv := fun r => some (.int r.1)) (hp := fun r => r.2) (fun b r hg => c_X8_fail l G h b _ r hg) rfl rfl (Nat.le_of_ble_eq_true rfl) (Nat.le_of_ble_eq_true rfl) (Nat.le_of_ble_eq_true rfl) hl.1 dX8_readField_9 (fun b39 r38 H locs hgr38 hh hm hs => ?_)
    refine W.eq (g2 := F0 m 12 ls [.int r38.1]) rfl ?_
    exact r_rbretW hQ C hr hm hs hh dX8_readField_12
def mX8_knownField (h : MHp) (a0 : Nat) : Option (Int32 × MHp) := (rcv 9 h (some a0)).bind fun b2 => (mX8_isName h b2).bind fun r1 => (if r1 = 0 then (rcv 9 h (some a0)).bind fun b11 => (mX8_fail h b11 1).bind fun r10 => some ((-1), r10.2) else (gR 9 8 h (some a0)).bind fun x3 => (gL 9 7 h (some a0)).bind fun x4 => (rcv 2 h x3).bind fun b6 => (mX1_fieldNamed h b6 x4).bind fun r5 => (if r5 = (-1) then (rcv 9 h (some a0)).bind fun b8 => (mX8_fail h b8 2).bind fun r7 => some (r5, r7.2) else some (r5, h)))
set_option maxRecDepth 100000 in
set_option maxHeartbeats 4000000 in
theorem c_X8_knownField (l : Launch) (G : Env0) (h : MHp) (a0 : Nat) (res : Int32 × MHp) (hh : mX8_knownField h a0 = some res) : MG l yX8_knownField cX8_knownField 2 (some .int) 1 23 0 0 G h [.ref a0] (some (.int res.1)) (res.2) := by
  refine MG_of (own := RX8) (plainFor_of_name (by decide)) rfl (Nat.le_of_ble_eq_true rfl) ?_
  intro p e s m args below meth c Q ls hQ C X hin hm hs hl hr
  have hl : lv_has ls 2 [(0, va_rf (some a0))] := hl
  unfold mX8_knownField at hh
  refine r_aload_n C.1 C.2.1 dX8_knownField_0 rfl (lv_at hl 0 rfl) ?_
  refine r_cV C X hm hs mlX8_102 mvX8_102 hh (vv := fun r => some (.int r)) (hp := fun r => h) (fun b r hg => c_X8_isName l G h b  r hg) rfl rfl (Nat.le_of_ble_eq_true rfl) (Nat.le_of_ble_eq_true rfl) (Nat.le_of_ble_eq_true rfl) hl.1 dX8_knownField_1 (fun b2 r1 H locs hgr1 hh hm hs => ?_)
  refine W.eq (g2 := F0 m 4 ls [.int r1]) rfl ?_
  refine lv_if_ne (tgt := 15) C.1 C.2.1 dX8_knownField_4 (by decide) (fun c12 => ?_) (fun c12 => ?_)
  · rw [if_neg c12] at hh
    refine r_aload_n C.1 C.2.1 dX8_knownField_15 rfl (lv_at hl 0 rfl) ?_
    refine r_getR C hm flX8_15 dX8_knownField_16 hh (fun x3 _ hh => ?_)
    refine r_aload_n C.1 C.2.1 dX8_knownField_19 rfl (lv_at hl 0 rfl) ?_
    refine r_getL C hm flX8_105 dX8_knownField_20 hh (fun x4 _ hh => ?_)
    refine r_cV C X hm hs mlX8_109 mvX8_109 hh (vv := fun r => some (.int r)) (hp := fun r => h) (fun b r hg => c_X1_fieldNamed l G h b _ r hg) rfl rfl (Nat.le_of_ble_eq_true rfl) (Nat.le_of_ble_eq_true rfl) (Nat.le_of_ble_eq_true rfl) hl.1 dX8_knownField_23 (fun b6 r5 H locs hgr5 hh hm hs => ?_)
    refine W.eq (g2 := F0 m 26 ls [.int r5]) rfl ?_
    refine lv_istore_n (i := 1) (lv' := [(1, .int r5), (0, va_rf (some a0))]) C.1 C.2.1 dX8_knownField_26 rfl hl (by decide) (by simp [va_cat, vc_i, vc_l, vc_r]) (fun ls hl => ?_)
    refine lv_iload_n C.1 C.2.1 dX8_knownField_27 rfl (lv_at hl 0 rfl) ?_
    refine lv_iconst (v := (-1)) C.1 C.2.1 dX8_knownField_28 (by decide) ?_
    refine lv_icmp_ne (tgt := 38) C.1 C.2.1 dX8_knownField_29 (by decide) (fun c9 => ?_) (fun c9 => ?_)
    · rw [if_neg c9] at hh
      refine lv_iload_n C.1 C.2.1 dX8_knownField_38 rfl (lv_at hl 0 rfl) ?_
      exact r_iretW hQ C hr hm hs hh dX8_knownField_39
    · rw [if_pos c9] at hh
      refine r_aload_n C.1 C.2.1 dX8_knownField_32 rfl (lv_at hl 1 rfl) ?_
      refine lv_iconst (v := 2) C.1 C.2.1 dX8_knownField_33 (by decide) ?_
      refine r_cV C X hm hs mlX8_40 mvX8_40 hh (vv := fun r => some (.int r.1)) (hp := fun r => r.2) (fun b r hg => c_X8_fail l G h b _ r hg) rfl rfl (Nat.le_of_ble_eq_true rfl) (Nat.le_of_ble_eq_true rfl) (Nat.le_of_ble_eq_true rfl) hl.1 dX8_knownField_34 (fun b8 r7 H locs hgr7 hh hm hs => ?_)
      refine W.eq (g2 := F0 m 37 ls [.int r7.1]) rfl ?_
      refine lv_pop C.1 C.2.1 dX8_knownField_37 rfl ?_
      refine lv_iload_n C.1 C.2.1 dX8_knownField_38 rfl (lv_at hl 0 rfl) ?_
      exact r_iretW hQ C hr hm hs hh dX8_knownField_39
  · rw [if_pos c12] at hh
    refine r_aload_n C.1 C.2.1 dX8_knownField_7 rfl (lv_at hl 0 rfl) ?_
    refine lv_iconst (v := 1) C.1 C.2.1 dX8_knownField_8 (by decide) ?_
    refine r_cV C X hm hs mlX8_40 mvX8_40 hh (vv := fun r => some (.int r.1)) (hp := fun r => r.2) (fun b r hg => c_X8_fail l G h b _ r hg) rfl rfl (Nat.le_of_ble_eq_true rfl) (Nat.le_of_ble_eq_true rfl) (Nat.le_of_ble_eq_true rfl) hl.1 dX8_knownField_9 (fun b11 r10 H locs hgr10 hh hm hs => ?_)
    refine W.eq (g2 := F0 m 12 ls [.int r10.1]) rfl ?_
    refine lv_pop C.1 C.2.1 dX8_knownField_12 rfl ?_
    refine lv_iconst (v := (-1)) C.1 C.2.1 dX8_knownField_13 (by decide) ?_
    exact r_iretW hQ C hr hm hs hh dX8_knownField_14
def mX8_readOne_b121 (h : MHp) (a0 : Nat) (v1 : Option Nat) (v2 : Int32) (v3 : Int32) (v4 : Int32) : Option (Int32 × MHp) := (rcv 11 h v1).bind fun b2 => (mX10_add h b2 v2 v3 v4).bind fun r1 => (rcv 9 r1 (some a0)).bind fun b4 => (mX8_step r1 b4).bind fun r3 => some (1, r3)
def mX8_readOne_b62 (h : MHp) (a0 : Nat) (v1 : Option Nat) (v2 : Int32) : Option (Int32 × MHp) := (gI 9 6 h (some a0)).bind fun x5 => (rcv 9 h (some a0)).bind fun b7 => (mX8_step h b7).bind fun r6 => (gI 9 6 r6 (some a0)).bind fun x8 => (gI 9 5 r6 (some a0)).bind fun x9 => (if x9 = 2 then (if x8 ≤ 99 then mX8_readOne_b121 r6 a0 v1 v2 x5 x8 else (rcv 9 r6 (some a0)).bind fun b11 => (mX8_fail r6 b11 4).bind fun r10 => (rB r10.1).bind fun _ => some (r10.1, r10.2)) else (rcv 9 r6 (some a0)).bind fun b14 => (mX8_knownField r6 b14).bind fun r13 => (if r13.1 = (-1) then some (0, r13.2) else mX8_readOne_b121 r13.2 a0 v1 v2 x5 ((-1) - r13.1)))
def mX8_readOne (h : MHp) (a0 : Nat) (a1 : Option Nat) : Option (Int32 × MHp) := (rcv 9 h (some a0)).bind fun b18 => (mX8_knownField h b18).bind fun r17 => (if r17.1 = (-1) then some (0, r17.2) else (rcv 11 r17.2 a1).bind fun b20 => (mX10_isFull r17.2 b20).bind fun r19 => (if r19 = 0 then (rcv 9 r17.2 (some a0)).bind fun b22 => (mX8_step r17.2 b22).bind fun r21 => (rcv 9 r21 (some a0)).bind fun b24 => (mX8_isSign r21 b24 61).bind fun r23 => (if r23 = 0 then (rcv 9 r21 (some a0)).bind fun b26 => (mX8_isSign r21 b26 60).bind fun r25 => (if r25 = 0 then (rcv 9 r21 (some a0)).bind fun b28 => (mX8_isSign r21 b28 62).bind fun r27 => (if r27 = 0 then (rcv 9 r21 (some a0)).bind fun b30 => (mX8_fail r21 b30 1).bind fun r29 => (rB r29.1).bind fun _ => some (r29.1, r29.2) else mX8_readOne_b62 r21 a0 a1 r17.1) else mX8_readOne_b62 r21 a0 a1 r17.1) else mX8_readOne_b62 r21 a0 a1 r17.1) else (rcv 9 r17.2 (some a0)).bind fun b35 => (mX8_fail r17.2 b35 5).bind fun r34 => (rB r34.1).bind fun _ => some (r34.1, r34.2)))
set_option maxRecDepth 100000 in
set_option maxHeartbeats 4000000 in
theorem c_X8_readOne (l : Launch) (G : Env0) (h : MHp) (a0 : Nat) (a1 : Option Nat) (res : Int32 × MHp) (hh : mX8_readOne h a0 a1 = some res) : MG l yX8_readOne cX8_readOne 6 (some .boolean) 2 44 0 0 G h [.ref a0, va_rf a1] (some (.int res.1)) (res.2) := by
  refine MG_of (own := RX8) (plainFor_of_name (by decide)) rfl (by simp [lg_sl, va_cat, vc_i, vc_l, vc_r]) ?_
  intro p e s m args below meth c Q ls hQ C X hin hm hs hl hr
  have hl : lv_has ls 6 [(0, .ref a0), (1, va_rf a1)] := by simpa [lv_args, va_cat, vc_i, vc_l, vc_r] using hl
  have hl : lv_has ls 6 [(0, va_rf (some a0)), (1, va_rf a1)] := hl
  have B121 : ∀ (h : MHp) (H : Heap) (locs : List Loc) (ls : Array Slot) (a0 : Nat) (v1 : Option Nat) (v2 : Int32) (v3 : Int32) (v4 : Int32) , mHp (gD G) (gC G) (gB G) h H → va_S (fun q => gB G ≤ q) s.heap H locs → lv_has ls 6 [(0, va_rf (some a0)), (1, va_rf v1), (2, .int v2), (3, .int v3), (4, .int v4)] → mX8_readOne_b121 h a0 v1 v2 v3 v4 = some res → W p l e ({ frames := 2, cells := 0, slots := 0, locals := 44 }) s m args below meth c H locs 0 0 Q (F0 m 121 ls []) := by
    intro h H locs ls a0 v1 v2 v3 v4 hm hs hl hh
    unfold mX8_readOne_b121 at hh
    refine r_aload_n C.1 C.2.1 dX8_readOne_121 rfl (lv_at hl 1 rfl) ?_
    refine lv_iload_n C.1 C.2.1 dX8_readOne_122 rfl (lv_at hl 2 rfl) ?_
    refine lv_iload_n C.1 C.2.1 dX8_readOne_123 rfl (lv_at hl 3 rfl) ?_
    refine lv_iload C.1 C.2.1 dX8_readOne_124 (lv_at hl 4 rfl) ?_
    refine r_cV C X hm hs mlX8_149 mvX8_149 hh (vv := fun r => none) (hp := fun r => r) (fun b r hg => c_X10_add l G h b _ _ _ r hg) rfl rfl (Nat.le_of_ble_eq_true rfl) (Nat.le_of_ble_eq_true rfl) (Nat.le_of_ble_eq_true rfl) hl.1 dX8_readOne_126 (fun b2 r1 H locs hgr1 hh hm hs => ?_)
    refine W.eq (g2 := F0 m 129 ls []) rfl ?_
    refine r_aload_n C.1 C.2.1 dX8_readOne_129 rfl (lv_at hl 0 rfl) ?_
    refine r_cV C X hm hs mlX8_43 mvX8_43 hh (vv := fun r => none) (hp := fun r => r) (fun b r hg => c_X8_step l G r1 b  r hg) rfl rfl (Nat.le_of_ble_eq_true rfl) (Nat.le_of_ble_eq_true rfl) (Nat.le_of_ble_eq_true rfl) hl.1 dX8_readOne_130 (fun b4 r3 H locs hgr3 hh hm hs => ?_)
    refine W.eq (g2 := F0 m 133 ls []) rfl ?_
    refine lv_iconst (v := 1) C.1 C.2.1 dX8_readOne_133 (by decide) ?_
    exact r_bretW hQ C hr hm hs (by decide) hh dX8_readOne_134
  have B62 : ∀ (h : MHp) (H : Heap) (locs : List Loc) (ls : Array Slot) (a0 : Nat) (v1 : Option Nat) (v2 : Int32) , mHp (gD G) (gC G) (gB G) h H → va_S (fun q => gB G ≤ q) s.heap H locs → lv_has ls 6 [(0, va_rf (some a0)), (1, va_rf v1), (2, .int v2)] → mX8_readOne_b62 h a0 v1 v2 = some res → W p l e ({ frames := 2, cells := 0, slots := 0, locals := 44 }) s m args below meth c H locs 0 0 Q (F0 m 62 ls []) := by
    intro h H locs ls a0 v1 v2 hm hs hl hh
    unfold mX8_readOne_b62 at hh
    refine r_aload_n C.1 C.2.1 dX8_readOne_62 rfl (lv_at hl 0 rfl) ?_
    refine r_getI C hm flX8_121 dX8_readOne_63 hh (fun x5 _ hh => ?_)
    refine lv_istore_n (i := 3) (lv' := [(3, .int x5), (0, va_rf (some a0)), (1, va_rf v1), (2, .int v2)]) C.1 C.2.1 dX8_readOne_66 rfl hl (by decide) rfl (fun ls hl => ?_)
    refine r_aload_n C.1 C.2.1 dX8_readOne_67 rfl (lv_at hl 1 rfl) ?_
    refine r_cV C X hm hs mlX8_43 mvX8_43 hh (vv := fun r => none) (hp := fun r => r) (fun b r hg => c_X8_step l G h b  r hg) rfl rfl (Nat.le_of_ble_eq_true rfl) (Nat.le_of_ble_eq_true rfl) (Nat.le_of_ble_eq_true rfl) hl.1 dX8_readOne_68 (fun b7 r6 H locs hgr6 hh hm hs => ?_)
    refine W.eq (g2 := F0 m 71 ls []) rfl ?_
    refine r_aload_n C.1 C.2.1 dX8_readOne_71 rfl (lv_at hl 1 rfl) ?_
    refine r_getI C hm flX8_121 dX8_readOne_72 hh (fun x8 _ hh => ?_)
    refine lv_istore (i := 4) (lv' := [(4, .int x8), (3, .int x5), (0, va_rf (some a0)), (1, va_rf v1), (2, .int v2)]) C.1 C.2.1 dX8_readOne_75 hl (by decide) rfl (fun ls hl => ?_)
    refine r_aload_n C.1 C.2.1 dX8_readOne_77 rfl (lv_at hl 2 rfl) ?_
    refine r_getI C hm flX8_32 dX8_readOne_78 hh (fun x9 _ hh => ?_)
    refine lv_iconst (v := 2) C.1 C.2.1 dX8_readOne_81 (by decide) ?_
    refine lv_icmp_eq (tgt := 108) C.1 C.2.1 dX8_readOne_82 (by decide) (fun c16 => ?_) (fun c16 => ?_)
    · rw [if_pos c16] at hh
      refine lv_iload C.1 C.2.1 dX8_readOne_108 (lv_at hl 0 rfl) ?_
      refine lv_bipush (v := 99) C.1 C.2.1 dX8_readOne_110 (by decide) ?_
      refine lv_icmp_le (tgt := 121) C.1 C.2.1 dX8_readOne_112 (by decide) (fun c12 => ?_) (fun c12 => ?_)
      · rw [if_pos c12] at hh
        exact B121 _ _ _ _ _ _ _ _ _  hm hs (lv_sub hl [2, 3, 4, 1, 0] rfl) hh
      · rw [if_neg c12] at hh
        refine r_aload_n C.1 C.2.1 dX8_readOne_115 rfl (lv_at hl 2 rfl) ?_
        refine lv_iconst (v := 4) C.1 C.2.1 dX8_readOne_116 (by decide) ?_
        refine r_cV C X hm hs mlX8_40 mvX8_40 hh (vv := fun r => some (.int r.1)) (hp := fun r => r.2) (fun b r hg => c_X8_fail l G r6 b _ r hg) rfl rfl (Nat.le_of_ble_eq_true rfl) (Nat.le_of_ble_eq_true rfl) (Nat.le_of_ble_eq_true rfl) hl.1 dX8_readOne_117 (fun b11 r10 H locs hgr10 hh hm hs => ?_)
        refine W.eq (g2 := F0 m 120 ls [.int r10.1]) rfl ?_
        exact r_rbretW hQ C hr hm hs hh dX8_readOne_120
    · rw [if_neg c16] at hh
      refine r_aload_n C.1 C.2.1 dX8_readOne_85 rfl (lv_at hl 2 rfl) ?_
      refine r_cV C X hm hs mlX8_142 mvX8_142 hh (vv := fun r => some (.int r.1)) (hp := fun r => r.2) (fun b r hg => c_X8_knownField l G r6 b  r hg) rfl rfl (Nat.le_of_ble_eq_true rfl) (Nat.le_of_ble_eq_true rfl) (Nat.le_of_ble_eq_true rfl) hl.1 dX8_readOne_86 (fun b14 r13 H locs hgr13 hh hm hs => ?_)
      refine W.eq (g2 := F0 m 89 ls [.int r13.1]) rfl ?_
      refine lv_istore (i := 5) (lv' := [(5, .int r13.1), (4, .int x8), (3, .int x5), (0, va_rf (some a0)), (1, va_rf v1), (2, .int v2)]) C.1 C.2.1 dX8_readOne_89 hl (by decide) rfl (fun ls hl => ?_)
      refine lv_iload C.1 C.2.1 dX8_readOne_91 (lv_at hl 0 rfl) ?_
      refine lv_iconst (v := (-1)) C.1 C.2.1 dX8_readOne_93 (by decide) ?_
      refine lv_icmp_ne (tgt := 99) C.1 C.2.1 dX8_readOne_94 (by decide) (fun c15 => ?_) (fun c15 => ?_)
      · rw [if_neg c15] at hh
        refine lv_iconst (v := (-1)) C.1 C.2.1 dX8_readOne_99 (by decide) ?_
        refine lv_iload C.1 C.2.1 dX8_readOne_100 (lv_at hl 0 rfl) ?_
        refine lv_isub C.1 C.2.1 dX8_readOne_102 ?_
        refine lv_istore (i := 4) (lv' := [(4, .int ((-1) - r13.1)), (5, .int r13.1), (3, .int x5), (0, va_rf (some a0)), (1, va_rf v1), (2, .int v2)]) C.1 C.2.1 dX8_readOne_103 hl (by decide) rfl (fun ls hl => ?_)
        refine lv_goto (tgt := 121) C.1 C.2.1 dX8_readOne_105 (by decide) ?_
        exact B121 _ _ _ _ _ _ _ _ _  hm hs (lv_sub hl [3, 4, 5, 2, 0] rfl) hh
      · rw [if_pos c15] at hh
        refine lv_iconst (v := 0) C.1 C.2.1 dX8_readOne_97 (by decide) ?_
        exact r_bretW hQ C hr hm hs (by decide) hh dX8_readOne_98
  unfold mX8_readOne at hh
  refine r_aload_n C.1 C.2.1 dX8_readOne_0 rfl (lv_at hl 0 rfl) ?_
  refine r_cV C X hm hs mlX8_142 mvX8_142 hh (vv := fun r => some (.int r.1)) (hp := fun r => r.2) (fun b r hg => c_X8_knownField l G h b  r hg) rfl rfl (Nat.le_of_ble_eq_true rfl) (Nat.le_of_ble_eq_true rfl) (Nat.le_of_ble_eq_true rfl) hl.1 dX8_readOne_1 (fun b18 r17 H locs hgr17 hh hm hs => ?_)
  refine W.eq (g2 := F0 m 4 ls [.int r17.1]) rfl ?_
  refine lv_istore_n (i := 2) (lv' := [(2, .int r17.1), (0, va_rf (some a0)), (1, va_rf a1)]) C.1 C.2.1 dX8_readOne_4 rfl hl (by decide) (by simp [va_cat, vc_i, vc_l, vc_r]) (fun ls hl => ?_)
  refine lv_iload_n C.1 C.2.1 dX8_readOne_5 rfl (lv_at hl 0 rfl) ?_
  refine lv_iconst (v := (-1)) C.1 C.2.1 dX8_readOne_6 (by decide) ?_
  refine lv_icmp_ne (tgt := 12) C.1 C.2.1 dX8_readOne_7 (by decide) (fun c37 => ?_) (fun c37 => ?_)
  · rw [if_neg c37] at hh
    refine r_aload_n C.1 C.2.1 dX8_readOne_12 rfl (lv_at hl 2 rfl) ?_
    refine r_cV C X hm hs mlX8_146 mvX8_146 hh (vv := fun r => some (.int r)) (hp := fun r => r17.2) (fun b r hg => c_X10_isFull l G r17.2 b  r hg) rfl rfl (Nat.le_of_ble_eq_true rfl) (Nat.le_of_ble_eq_true rfl) (Nat.le_of_ble_eq_true rfl) hl.1 dX8_readOne_13 (fun b20 r19 H locs hgr19 hh hm hs => ?_)
    refine W.eq (g2 := F0 m 16 ls [.int r19]) rfl ?_
    refine lv_if_eq (tgt := 25) C.1 C.2.1 dX8_readOne_16 (by decide) (fun c36 => ?_) (fun c36 => ?_)
    · rw [if_pos c36] at hh
      refine r_aload_n C.1 C.2.1 dX8_readOne_25 rfl (lv_at hl 1 rfl) ?_
      refine r_cV C X hm hs mlX8_43 mvX8_43 hh (vv := fun r => none) (hp := fun r => r) (fun b r hg => c_X8_step l G r17.2 b  r hg) rfl rfl (Nat.le_of_ble_eq_true rfl) (Nat.le_of_ble_eq_true rfl) (Nat.le_of_ble_eq_true rfl) hl.1 dX8_readOne_26 (fun b22 r21 H locs hgr21 hh hm hs => ?_)
      refine W.eq (g2 := F0 m 29 ls []) rfl ?_
      refine r_aload_n C.1 C.2.1 dX8_readOne_29 rfl (lv_at hl 1 rfl) ?_
      refine lv_bipush (v := 61) C.1 C.2.1 dX8_readOne_30 (by decide) ?_
      refine r_cV C X hm hs mlX8_36 mvX8_36 hh (vv := fun r => some (.int r)) (hp := fun r => r21) (fun b r hg => c_X8_isSign l G r21 b _ r hg) rfl rfl (Nat.le_of_ble_eq_true rfl) (Nat.le_of_ble_eq_true rfl) (Nat.le_of_ble_eq_true rfl) hl.1 dX8_readOne_32 (fun b24 r23 H locs hgr23 hh hm hs => ?_)
      refine W.eq (g2 := F0 m 35 ls [.int r23]) rfl ?_
      refine lv_if_ne (tgt := 62) C.1 C.2.1 dX8_readOne_35 (by decide) (fun c33 => ?_) (fun c33 => ?_)
      · rw [if_neg c33] at hh
        exact B62 _ _ _ _ _ _ _  hm hs (lv_sub hl [1, 2, 0] rfl) hh
      · rw [if_pos c33] at hh
        refine r_aload_n C.1 C.2.1 dX8_readOne_38 rfl (lv_at hl 1 rfl) ?_
        refine lv_bipush (v := 60) C.1 C.2.1 dX8_readOne_39 (by decide) ?_
        refine r_cV C X hm hs mlX8_36 mvX8_36 hh (vv := fun r => some (.int r)) (hp := fun r => r21) (fun b r hg => c_X8_isSign l G r21 b _ r hg) rfl rfl (Nat.le_of_ble_eq_true rfl) (Nat.le_of_ble_eq_true rfl) (Nat.le_of_ble_eq_true rfl) hl.1 dX8_readOne_41 (fun b26 r25 H locs hgr25 hh hm hs => ?_)
        refine W.eq (g2 := F0 m 44 ls [.int r25]) rfl ?_
        refine lv_if_ne (tgt := 62) C.1 C.2.1 dX8_readOne_44 (by decide) (fun c32 => ?_) (fun c32 => ?_)
        · rw [if_neg c32] at hh
          exact B62 _ _ _ _ _ _ _  hm hs (lv_sub hl [1, 2, 0] rfl) hh
        · rw [if_pos c32] at hh
          refine r_aload_n C.1 C.2.1 dX8_readOne_47 rfl (lv_at hl 1 rfl) ?_
          refine lv_bipush (v := 62) C.1 C.2.1 dX8_readOne_48 (by decide) ?_
          refine r_cV C X hm hs mlX8_36 mvX8_36 hh (vv := fun r => some (.int r)) (hp := fun r => r21) (fun b r hg => c_X8_isSign l G r21 b _ r hg) rfl rfl (Nat.le_of_ble_eq_true rfl) (Nat.le_of_ble_eq_true rfl) (Nat.le_of_ble_eq_true rfl) hl.1 dX8_readOne_50 (fun b28 r27 H locs hgr27 hh hm hs => ?_)
          refine W.eq (g2 := F0 m 53 ls [.int r27]) rfl ?_
          refine lv_if_ne (tgt := 62) C.1 C.2.1 dX8_readOne_53 (by decide) (fun c31 => ?_) (fun c31 => ?_)
          · rw [if_neg c31] at hh
            exact B62 _ _ _ _ _ _ _  hm hs (lv_sub hl [1, 2, 0] rfl) hh
          · rw [if_pos c31] at hh
            refine r_aload_n C.1 C.2.1 dX8_readOne_56 rfl (lv_at hl 1 rfl) ?_
            refine lv_iconst (v := 1) C.1 C.2.1 dX8_readOne_57 (by decide) ?_
            refine r_cV C X hm hs mlX8_40 mvX8_40 hh (vv := fun r => some (.int r.1)) (hp := fun r => r.2) (fun b r hg => c_X8_fail l G r21 b _ r hg) rfl rfl (Nat.le_of_ble_eq_true rfl) (Nat.le_of_ble_eq_true rfl) (Nat.le_of_ble_eq_true rfl) hl.1 dX8_readOne_58 (fun b30 r29 H locs hgr29 hh hm hs => ?_)
            refine W.eq (g2 := F0 m 61 ls [.int r29.1]) rfl ?_
            exact r_rbretW hQ C hr hm hs hh dX8_readOne_61
    · rw [if_neg c36] at hh
      refine r_aload_n C.1 C.2.1 dX8_readOne_19 rfl (lv_at hl 1 rfl) ?_
      refine lv_iconst (v := 5) C.1 C.2.1 dX8_readOne_20 (by decide) ?_
      refine r_cV C X hm hs mlX8_40 mvX8_40 hh (vv := fun r => some (.int r.1)) (hp := fun r => r.2) (fun b r hg => c_X8_fail l G r17.2 b _ r hg) rfl rfl (Nat.le_of_ble_eq_true rfl) (Nat.le_of_ble_eq_true rfl) (Nat.le_of_ble_eq_true rfl) hl.1 dX8_readOne_21 (fun b35 r34 H locs hgr34 hh hm hs => ?_)
      refine W.eq (g2 := F0 m 24 ls [.int r34.1]) rfl ?_
      exact r_rbretW hQ C hr hm hs hh dX8_readOne_24
  · rw [if_pos c37] at hh
    refine lv_iconst (v := 0) C.1 C.2.1 dX8_readOne_10 (by decide) ?_
    exact r_bretW hQ C hr hm hs (by decide) hh dX8_readOne_11
def mX8_readTest_l2 : Nat → MHp → Nat → Option Nat → Int32 → Option (Int32 × MHp)
  | 0, _, _, _, _ => none
  | n + 1, h, a0, v1, v2 => (if 12 < v2 then some (0, h) else (rcv 9 h (some a0)).bind fun b2 => (mX8_readOne h b2 v1).bind fun r1 => (if r1.1 = 0 then some (0, r1.2) else (rcv 9 r1.2 (some a0)).bind fun b4 => (mX8_isWord r1.2 b4 6385252).bind fun r3 => (if r3 = 0 then some (1, r1.2) else (rcv 9 r1.2 (some a0)).bind fun b6 => (mX8_step r1.2 b6).bind fun r5 => mX8_readTest_l2 n r5 a0 v1 (v2 + 1))))
def mX8_readTest (h : MHp) (a0 : Nat) (a1 : Option Nat) : Option (Int32 × MHp) := mX8_readTest_l2 FUEL h a0 a1 0
set_option maxRecDepth 100000 in
set_option maxHeartbeats 4000000 in
theorem c_X8_readTest (l : Launch) (G : Env0) (h : MHp) (a0 : Nat) (a1 : Option Nat) (res : Int32 × MHp) (hh : mX8_readTest h a0 a1 = some res) : MG l yX8_readTest cX8_readTest 3 (some .boolean) 3 69 0 0 G h [.ref a0, va_rf a1] (some (.int res.1)) (res.2) := by
  refine MG_of (own := RX8) (plainFor_of_name (by decide)) rfl (by simp [lg_sl, va_cat, vc_i, vc_l, vc_r]) ?_
  intro p e s m args below meth c Q ls hQ C X hin hm hs hl hr
  have hl : lv_has ls 3 [(0, .ref a0), (1, va_rf a1)] := by simpa [lv_args, va_cat, vc_i, vc_l, vc_r] using hl
  have hl : lv_has ls 3 [(0, va_rf (some a0)), (1, va_rf a1)] := hl
  have B2 : ∀ n : Nat, ∀ (h : MHp) (H : Heap) (locs : List Loc) (ls : Array Slot) (a0 : Nat) (v1 : Option Nat) (v2 : Int32) , mHp (gD G) (gC G) (gB G) h H → va_S (fun q => gB G ≤ q) s.heap H locs → lv_has ls 3 [(0, va_rf (some a0)), (1, va_rf v1), (2, .int v2)] → mX8_readTest_l2 n h a0 v1 v2 = some res → W p l e ({ frames := 3, cells := 0, slots := 0, locals := 69 }) s m args below meth c H locs 0 0 Q (F0 m 2 ls []) := by
    intro n
    induction n with
    | zero => intro h H locs ls a0 v1 v2 hm hs hl hh; cases hh
    | succ n ih =>
      intro h H locs ls a0 v1 v2 hm hs hl hh
      unfold mX8_readTest_l2 at hh
      refine lv_iload_n C.1 C.2.1 dX8_readTest_2 rfl (lv_at hl 2 rfl) ?_
      refine lv_bipush (v := 12) C.1 C.2.1 dX8_readTest_3 (by decide) ?_
      refine lv_icmp_gt (tgt := 38) C.1 C.2.1 dX8_readTest_5 (by decide) (fun c9 => ?_) (fun c9 => ?_)
      · rw [if_pos c9] at hh
        refine lv_iconst (v := 0) C.1 C.2.1 dX8_readTest_38 (by decide) ?_
        exact r_bretW hQ C hr hm hs (by decide) hh dX8_readTest_39
      · rw [if_neg c9] at hh
        refine r_aload_n C.1 C.2.1 dX8_readTest_8 rfl (lv_at hl 0 rfl) ?_
        refine r_aload_n C.1 C.2.1 dX8_readTest_9 rfl (lv_at hl 1 rfl) ?_
        refine r_cV C X hm hs mlX8_137 mvX8_137 hh (vv := fun r => some (.int r.1)) (hp := fun r => r.2) (fun b r hg => c_X8_readOne l G h b _ r hg) rfl rfl (Nat.le_of_ble_eq_true rfl) (Nat.le_of_ble_eq_true rfl) (Nat.le_of_ble_eq_true rfl) hl.1 dX8_readTest_10 (fun b2 r1 H locs hgr1 hh hm hs => ?_)
        refine W.eq (g2 := F0 m 13 ls [.int r1.1]) rfl ?_
        refine lv_if_eq (tgt := 38) C.1 C.2.1 dX8_readTest_13 (by decide) (fun c8 => ?_) (fun c8 => ?_)
        · rw [if_pos c8] at hh
          refine lv_iconst (v := 0) C.1 C.2.1 dX8_readTest_38 (by decide) ?_
          exact r_bretW hQ C hr hm hs (by decide) hh dX8_readTest_39
        · rw [if_neg c8] at hh
          refine r_aload_n C.1 C.2.1 dX8_readTest_16 rfl (lv_at hl 0 rfl) ?_
          refine lv_ldc2 (v := 6385252) C.1 C.2.1 C.2.2.2.1 (C.2.2.2.2.1 _ (in_tbl q_521 rfl)) dX8_readTest_17 ?_
          refine r_cV C X hm hs mlX8_58 mvX8_58 hh (vv := fun r => some (.int r)) (hp := fun r => r1.2) (fun b r hg => c_X8_isWord l G r1.2 b _ r hg) rfl rfl (Nat.le_of_ble_eq_true rfl) (Nat.le_of_ble_eq_true rfl) (Nat.le_of_ble_eq_true rfl) hl.1 dX8_readTest_20 (fun b4 r3 H locs hgr3 hh hm hs => ?_)
          refine W.eq (g2 := F0 m 23 ls [.int r3]) rfl ?_
          refine lv_if_ne (tgt := 28) C.1 C.2.1 dX8_readTest_23 (by decide) (fun c7 => ?_) (fun c7 => ?_)
          · rw [if_neg c7] at hh
            refine r_aload_n C.1 C.2.1 dX8_readTest_28 rfl (lv_at hl 0 rfl) ?_
            refine r_cV C X hm hs mlX8_43 mvX8_43 hh (vv := fun r => none) (hp := fun r => r) (fun b r hg => c_X8_step l G r1.2 b  r hg) rfl rfl (Nat.le_of_ble_eq_true rfl) (Nat.le_of_ble_eq_true rfl) (Nat.le_of_ble_eq_true rfl) hl.1 dX8_readTest_29 (fun b6 r5 H locs hgr5 hh hm hs => ?_)
            refine W.eq (g2 := F0 m 32 ls []) rfl ?_
            refine lv_iinc (v := (v2 + 1)) (lv' := [(2, .int (v2 + 1)), (0, va_rf (some a0)), (1, va_rf v1)]) C.1 C.2.1 dX8_readTest_32 hl (k := 2) rfl rfl (by decide) (by simp [va_cat, vc_i, vc_l, vc_r]) (fun ls hl => ?_)
            refine lv_goto (tgt := 2) C.1 C.2.1 dX8_readTest_35 (by decide) ?_
            exact ih _ _ _ _ _ _ _  hm hs (lv_sub hl [1, 2, 0] rfl) hh
          · rw [if_pos c7] at hh
            refine lv_iconst (v := 1) C.1 C.2.1 dX8_readTest_26 (by decide) ?_
            exact r_bretW hQ C hr hm hs (by decide) hh dX8_readTest_27
  unfold mX8_readTest at hh
  refine lv_iconst (v := 0) C.1 C.2.1 dX8_readTest_0 (by decide) ?_
  refine lv_istore_n (i := 2) (lv' := [(2, .int 0), (0, va_rf (some a0)), (1, va_rf a1)]) C.1 C.2.1 dX8_readTest_1 rfl hl (by decide) (by simp [va_cat, vc_i, vc_l, vc_r]) (fun ls hl => ?_)
  exact B2 FUEL _ _ _ _ _ _ _  hm hs (lv_sub hl [1, 2, 0] rfl) hh
def mX8_readLine_b57 (h : MHp) (a0 : Nat) : Option (Int32 × MHp) := (rcv 9 h (some a0)).bind fun b2 => (mX8_fail h b2 5).bind fun r1 => (rB r1.1).bind fun _ => some (r1.1, r1.2)
def mX8_readLine (h : MHp) (a0 : Nat) : Option (Int32 × MHp) := (rcv 9 h (some a0)).bind fun b4 => (mX8_isWord h b4 439854918756).bind fun r3 => (if r3 = 0 then (rcv 9 h (some a0)).bind fun b6 => (mX8_isWord h b6 474148660594).bind fun r5 => (if r5 = 0 then (rcv 9 h (some a0)).bind fun b29 => (mX8_fail h b29 1).bind fun r28 => (rB r28.1).bind fun _ => some (r28.1, r28.2) else (gR 9 8 h (some a0)).bind fun x7 => (gI 2 5 h x7).bind fun x8 => (if x8 < 0 then mX8_readLine_b57 h a0 else (gR 9 8 h (some a0)).bind fun x9 => (gI 2 5 h x9).bind fun x10 => (if x10 < 12 then (gR 9 8 h (some a0)).bind fun x11 => (gR 2 3 h x11).bind fun x12 => (gR 9 8 h (some a0)).bind fun x13 => (gI 2 5 h x13).bind fun x14 => (gAR 25 h x12 x14).bind fun x15 => (rcv 11 h x15).bind fun b17 => (mX10_clear h b17).bind fun r16 => (rcv 9 r16 (some a0)).bind fun b19 => (mX8_step r16 b19).bind fun r18 => (rcv 9 r18 (some a0)).bind fun b21 => (mX8_readTest r18 b21 x15).bind fun r20 => (if r20.1 = 0 then some (0, r20.2) else (gR 9 8 r20.2 (some a0)).bind fun x22 => (gI 2 5 r20.2 x22).bind fun x23 => (pI 2 5 r20.2 x22 (x23 + 1)).bind fun h24 => some (1, h24)) else mX8_readLine_b57 h a0))) else (rcv 9 h (some a0)).bind fun b32 => (mX8_step h b32).bind fun r31 => (rcv 9 r31 (some a0)).bind fun b34 => (mX8_readField r31 b34).bind fun r33 => (rB r33.1).bind fun _ => some (r33.1, r33.2))
set_option maxRecDepth 100000 in
set_option maxHeartbeats 4000000 in
theorem c_X8_readLine (l : Launch) (G : Env0) (h : MHp) (a0 : Nat) (res : Int32 × MHp) (hh : mX8_readLine h a0 = some res) : MG l yX8_readLine cX8_readLine 2 (some .boolean) 4 91 0 0 G h [.ref a0] (some (.int res.1)) (res.2) := by
  refine MG_of (own := RX8) (plainFor_of_name (by decide)) rfl (Nat.le_of_ble_eq_true rfl) ?_
  intro p e s m args below meth c Q ls hQ C X hin hm hs hl hr
  have hl : lv_has ls 2 [(0, va_rf (some a0))] := hl
  have B57 : ∀ (h : MHp) (H : Heap) (locs : List Loc) (ls : Array Slot) (a0 : Nat) , mHp (gD G) (gC G) (gB G) h H → va_S (fun q => gB G ≤ q) s.heap H locs → lv_has ls 2 [(0, va_rf (some a0))] → mX8_readLine_b57 h a0 = some res → W p l e ({ frames := 4, cells := 0, slots := 0, locals := 91 }) s m args below meth c H locs 0 0 Q (F0 m 57 ls []) := by
    intro h H locs ls a0 hm hs hl hh
    unfold mX8_readLine_b57 at hh
    refine r_aload_n C.1 C.2.1 dX8_readLine_57 rfl (lv_at hl 0 rfl) ?_
    refine lv_iconst (v := 5) C.1 C.2.1 dX8_readLine_58 (by decide) ?_
    refine r_cV C X hm hs mlX8_40 mvX8_40 hh (vv := fun r => some (.int r.1)) (hp := fun r => r.2) (fun b r hg => c_X8_fail l G h b _ r hg) rfl rfl (Nat.le_of_ble_eq_true rfl) (Nat.le_of_ble_eq_true rfl) (Nat.le_of_ble_eq_true rfl) hl.1 dX8_readLine_59 (fun b2 r1 H locs hgr1 hh hm hs => ?_)
    refine W.eq (g2 := F0 m 62 ls [.int r1.1]) rfl ?_
    exact r_rbretW hQ C hr hm hs hh dX8_readLine_62
  unfold mX8_readLine at hh
  refine r_aload_n C.1 C.2.1 dX8_readLine_0 rfl (lv_at hl 0 rfl) ?_
  refine lv_ldc2 (v := 439854918756) C.1 C.2.1 C.2.2.2.1 (C.2.2.2.2.1 _ (in_tbl q_507 rfl)) dX8_readLine_1 ?_
  refine r_cV C X hm hs mlX8_58 mvX8_58 hh (vv := fun r => some (.int r)) (hp := fun r => h) (fun b r hg => c_X8_isWord l G h b _ r hg) rfl rfl (Nat.le_of_ble_eq_true rfl) (Nat.le_of_ble_eq_true rfl) (Nat.le_of_ble_eq_true rfl) hl.1 dX8_readLine_4 (fun b4 r3 H locs hgr3 hh hm hs => ?_)
  refine W.eq (g2 := F0 m 7 ls [.int r3]) rfl ?_
  refine lv_if_eq (tgt := 19) C.1 C.2.1 dX8_readLine_7 (by decide) (fun c35 => ?_) (fun c35 => ?_)
  · rw [if_pos c35] at hh
    refine r_aload_n C.1 C.2.1 dX8_readLine_19 rfl (lv_at hl 0 rfl) ?_
    refine lv_ldc2 (v := 474148660594) C.1 C.2.1 C.2.2.2.1 (C.2.2.2.2.1 _ (in_tbl q_520 rfl)) dX8_readLine_20 ?_
    refine r_cV C X hm hs mlX8_58 mvX8_58 hh (vv := fun r => some (.int r)) (hp := fun r => h) (fun b r hg => c_X8_isWord l G h b _ r hg) rfl rfl (Nat.le_of_ble_eq_true rfl) (Nat.le_of_ble_eq_true rfl) (Nat.le_of_ble_eq_true rfl) hl.1 dX8_readLine_23 (fun b6 r5 H locs hgr5 hh hm hs => ?_)
    refine W.eq (g2 := F0 m 26 ls [.int r5]) rfl ?_
    refine lv_if_ne (tgt := 35) C.1 C.2.1 dX8_readLine_26 (by decide) (fun c30 => ?_) (fun c30 => ?_)
    · rw [if_neg c30] at hh
      refine r_aload_n C.1 C.2.1 dX8_readLine_35 rfl (lv_at hl 0 rfl) ?_
      refine r_getR C hm flX8_15 dX8_readLine_36 hh (fun x7 _ hh => ?_)
      refine r_getI C hm flX8_92 dX8_readLine_39 hh (fun x8 _ hh => ?_)
      refine lv_if_lt (tgt := 57) C.1 C.2.1 dX8_readLine_42 (by decide) (fun c27 => ?_) (fun c27 => ?_)
      · rw [if_pos c27] at hh
        exact B57 _ _ _ _ _  hm hs (lv_sub hl [0] rfl) hh
      · rw [if_neg c27] at hh
        refine r_aload_n C.1 C.2.1 dX8_readLine_45 rfl (lv_at hl 0 rfl) ?_
        refine r_getR C hm flX8_15 dX8_readLine_46 hh (fun x9 _ hh => ?_)
        refine r_getI C hm flX8_92 dX8_readLine_49 hh (fun x10 _ hh => ?_)
        refine lv_bipush (v := 12) C.1 C.2.1 dX8_readLine_52 (by decide) ?_
        refine lv_icmp_lt (tgt := 63) C.1 C.2.1 dX8_readLine_54 (by decide) (fun c26 => ?_) (fun c26 => ?_)
        · rw [if_pos c26] at hh
          refine r_aload_n C.1 C.2.1 dX8_readLine_63 rfl (lv_at hl 0 rfl) ?_
          refine r_getR C hm flX8_15 dX8_readLine_64 hh (fun x11 _ hh => ?_)
          refine r_getR C hm flX8_95 dX8_readLine_67 hh (fun x12 _ hh => ?_)
          refine r_aload_n C.1 C.2.1 dX8_readLine_70 rfl (lv_at hl 0 rfl) ?_
          refine r_getR C hm flX8_15 dX8_readLine_71 hh (fun x13 _ hh => ?_)
          refine r_getI C hm flX8_92 dX8_readLine_74 hh (fun x14 _ hh => ?_)
          refine r_ald_q C hm dX8_readLine_77 (kd := 25) (by decide) (t0 := 5) rfl hh (fun x15 _ hh => ?_)
          refine r_astore_n (i := 1) (lv' := [(1, va_rf x15), (0, va_rf (some a0))]) C.1 C.2.1 dX8_readLine_78 rfl hl (by decide) (by simp [va_cat, vc_i, vc_l, vc_r]) (fun ls hl => ?_)
          refine r_aload_n C.1 C.2.1 dX8_readLine_79 rfl (lv_at hl 0 rfl) ?_
          refine r_cV C X hm hs mlX8_99 mvX8_99 hh (vv := fun r => none) (hp := fun r => r) (fun b r hg => c_X10_clear l G h b  r hg) rfl rfl (Nat.le_of_ble_eq_true rfl) (Nat.le_of_ble_eq_true rfl) (Nat.le_of_ble_eq_true rfl) hl.1 dX8_readLine_80 (fun b17 r16 H locs hgr16 hh hm hs => ?_)
          refine W.eq (g2 := F0 m 83 ls []) rfl ?_
          refine r_aload_n C.1 C.2.1 dX8_readLine_83 rfl (lv_at hl 1 rfl) ?_
          refine r_cV C X hm hs mlX8_43 mvX8_43 hh (vv := fun r => none) (hp := fun r => r) (fun b r hg => c_X8_step l G r16 b  r hg) rfl rfl (Nat.le_of_ble_eq_true rfl) (Nat.le_of_ble_eq_true rfl) (Nat.le_of_ble_eq_true rfl) hl.1 dX8_readLine_84 (fun b19 r18 H locs hgr18 hh hm hs => ?_)
          refine W.eq (g2 := F0 m 87 ls []) rfl ?_
          refine r_aload_n C.1 C.2.1 dX8_readLine_87 rfl (lv_at hl 1 rfl) ?_
          refine r_aload_n C.1 C.2.1 dX8_readLine_88 rfl (lv_at hl 0 rfl) ?_
          refine r_cV C X hm hs mlX8_66 mvX8_66 hh (vv := fun r => some (.int r.1)) (hp := fun r => r.2) (fun b r hg => c_X8_readTest l G r18 b _ r hg) rfl rfl (Nat.le_of_ble_eq_true rfl) (Nat.le_of_ble_eq_true rfl) (Nat.le_of_ble_eq_true rfl) hl.1 dX8_readLine_89 (fun b21 r20 H locs hgr20 hh hm hs => ?_)
          refine W.eq (g2 := F0 m 92 ls [.int r20.1]) rfl ?_
          refine lv_if_ne (tgt := 97) C.1 C.2.1 dX8_readLine_92 (by decide) (fun c25 => ?_) (fun c25 => ?_)
          · rw [if_neg c25] at hh
            refine r_aload_n C.1 C.2.1 dX8_readLine_97 rfl (lv_at hl 1 rfl) ?_
            refine r_getR C hm flX8_15 dX8_readLine_98 hh (fun x22 _ hh => ?_)
            refine lv_dup C.1 C.2.1 dX8_readLine_101 (va_cat _) ?_
            refine r_getI C hm flX8_92 dX8_readLine_102 hh (fun x23 _ hh => ?_)
            refine lv_iconst (v := 1) C.1 C.2.1 dX8_readLine_105 (by decide) ?_
            refine lv_iadd C.1 C.2.1 dX8_readLine_106 ?_
            refine r_putI C hm hs flX8_92 (Or.inl fm_2_5) dX8_readLine_107 hh (fun h24 H locs _ hh hm hs => ?_)
            refine lv_iconst (v := 1) C.1 C.2.1 dX8_readLine_110 (by decide) ?_
            exact r_bretW hQ C hr hm hs (by decide) hh dX8_readLine_111
          · rw [if_pos c25] at hh
            refine lv_iconst (v := 0) C.1 C.2.1 dX8_readLine_95 (by decide) ?_
            exact r_bretW hQ C hr hm hs (by decide) hh dX8_readLine_96
        · rw [if_neg c26] at hh
          exact B57 _ _ _ _ _  hm hs (lv_sub hl [0] rfl) hh
    · rw [if_pos c30] at hh
      refine r_aload_n C.1 C.2.1 dX8_readLine_29 rfl (lv_at hl 0 rfl) ?_
      refine lv_iconst (v := 1) C.1 C.2.1 dX8_readLine_30 (by decide) ?_
      refine r_cV C X hm hs mlX8_40 mvX8_40 hh (vv := fun r => some (.int r.1)) (hp := fun r => r.2) (fun b r hg => c_X8_fail l G h b _ r hg) rfl rfl (Nat.le_of_ble_eq_true rfl) (Nat.le_of_ble_eq_true rfl) (Nat.le_of_ble_eq_true rfl) hl.1 dX8_readLine_31 (fun b29 r28 H locs hgr28 hh hm hs => ?_)
      refine W.eq (g2 := F0 m 34 ls [.int r28.1]) rfl ?_
      exact r_rbretW hQ C hr hm hs hh dX8_readLine_34
  · rw [if_neg c35] at hh
    refine r_aload_n C.1 C.2.1 dX8_readLine_10 rfl (lv_at hl 0 rfl) ?_
    refine r_cV C X hm hs mlX8_43 mvX8_43 hh (vv := fun r => none) (hp := fun r => r) (fun b r hg => c_X8_step l G h b  r hg) rfl rfl (Nat.le_of_ble_eq_true rfl) (Nat.le_of_ble_eq_true rfl) (Nat.le_of_ble_eq_true rfl) hl.1 dX8_readLine_11 (fun b32 r31 H locs hgr31 hh hm hs => ?_)
    refine W.eq (g2 := F0 m 14 ls []) rfl ?_
    refine r_aload_n C.1 C.2.1 dX8_readLine_14 rfl (lv_at hl 0 rfl) ?_
    refine r_cV C X hm hs mlX8_87 mvX8_87 hh (vv := fun r => some (.int r.1)) (hp := fun r => r.2) (fun b r hg => c_X8_readField l G r31 b  r hg) rfl rfl (Nat.le_of_ble_eq_true rfl) (Nat.le_of_ble_eq_true rfl) (Nat.le_of_ble_eq_true rfl) hl.1 dX8_readLine_15 (fun b34 r33 H locs hgr33 hh hm hs => ?_)
    refine W.eq (g2 := F0 m 18 ls [.int r33.1]) rfl ?_
    exact r_rbretW hQ C hr hm hs hh dX8_readLine_18
def mX8_readBook_l12 : Nat → MHp → Nat → Int32 → Option (Int32 × MHp)
  | 0, _, _, _ => none
  | n + 1, h, a0, v3 => (if 500 < v3 then some (0, h) else (rcv 9 h (some a0)).bind fun b2 => (mX8_readLine h b2).bind fun r1 => (if r1.1 = 0 then some (0, r1.2) else (gI 9 5 r1.2 (some a0)).bind fun x3 => (if x3 = 0 then some (1, r1.2) else (rcv 9 r1.2 (some a0)).bind fun b5 => (mX8_isSign r1.2 b5 59).bind fun r4 => (if r4 = 0 then (rcv 9 r1.2 (some a0)).bind fun b9 => (mX8_fail r1.2 b9 1).bind fun r8 => (rB r8.1).bind fun _ => some (r8.1, r8.2) else (rcv 9 r1.2 (some a0)).bind fun b7 => (mX8_step r1.2 b7).bind fun r6 => mX8_readBook_l12 n r6 a0 (v3 + 1)))))
def mX8_readBook (h : MHp) (a0 : Nat) (a1 : Int32) (a2 : Option Nat) : Option (Int32 × MHp) := (rcv 2 h a2).bind fun b15 => (mX1_clear h b15).bind fun r14 => (rcv 9 r14 (some a0)).bind fun b17 => (mX8_begin r14 b17 a1 a2).bind fun r16 => mX8_readBook_l12 FUEL r16 a0 0
set_option maxRecDepth 100000 in
set_option maxHeartbeats 4000000 in
theorem c_X8_readBook (l : Launch) (G : Env0) (h : MHp) (a0 : Nat) (a1 : Int32) (a2 : Option Nat) (res : Int32 × MHp) (hh : mX8_readBook h a0 a1 a2 = some res) : MG l yX8_readBook cX8_readBook 4 (some .boolean) 5 112 0 0 G h [.ref a0, .int a1, va_rf a2] (some (.int res.1)) (res.2) := by
  refine MG_of (own := RX8) (plainFor_of_name (by decide)) rfl (by simp [lg_sl, va_cat, vc_i, vc_l, vc_r]) ?_
  intro p e s m args below meth c Q ls hQ C X hin hm hs hl hr
  have hl : lv_has ls 4 [(0, .ref a0), (1, .int a1), (2, va_rf a2)] := by simpa [lv_args, va_cat, vc_i, vc_l, vc_r] using hl
  have hl : lv_has ls 4 [(0, va_rf (some a0)), (1, .int a1), (2, va_rf a2)] := hl
  have B12 : ∀ n : Nat, ∀ (h : MHp) (H : Heap) (locs : List Loc) (ls : Array Slot) (a0 : Nat) (v3 : Int32) , mHp (gD G) (gC G) (gB G) h H → va_S (fun q => gB G ≤ q) s.heap H locs → lv_has ls 4 [(0, va_rf (some a0)), (3, .int v3)] → mX8_readBook_l12 n h a0 v3 = some res → W p l e ({ frames := 5, cells := 0, slots := 0, locals := 112 }) s m args below meth c H locs 0 0 Q (F0 m 12 ls []) := by
    intro n
    induction n with
    | zero => intro h H locs ls a0 v3 hm hs hl hh; cases hh
    | succ n ih =>
      intro h H locs ls a0 v3 hm hs hl hh
      unfold mX8_readBook_l12 at hh
      refine lv_iload_n C.1 C.2.1 dX8_readBook_12 rfl (lv_at hl 1 rfl) ?_
      refine lv_sipush (v := 500) C.1 C.2.1 dX8_readBook_13 (by decide) ?_
      refine lv_icmp_gt (tgt := 60) C.1 C.2.1 dX8_readBook_16 (by decide) (fun c13 => ?_) (fun c13 => ?_)
      · rw [if_pos c13] at hh
        refine lv_iconst (v := 0) C.1 C.2.1 dX8_readBook_60 (by decide) ?_
        exact r_bretW hQ C hr hm hs (by decide) hh dX8_readBook_61
      · rw [if_neg c13] at hh
        refine r_aload_n C.1 C.2.1 dX8_readBook_19 rfl (lv_at hl 0 rfl) ?_
        refine r_cV C X hm hs mlX8_28 mvX8_28 hh (vv := fun r => some (.int r.1)) (hp := fun r => r.2) (fun b r hg => c_X8_readLine l G h b  r hg) rfl rfl (Nat.le_of_ble_eq_true rfl) (Nat.le_of_ble_eq_true rfl) (Nat.le_of_ble_eq_true rfl) hl.1 dX8_readBook_20 (fun b2 r1 H locs hgr1 hh hm hs => ?_)
        refine W.eq (g2 := F0 m 23 ls [.int r1.1]) rfl ?_
        refine lv_if_eq (tgt := 60) C.1 C.2.1 dX8_readBook_23 (by decide) (fun c12 => ?_) (fun c12 => ?_)
        · rw [if_pos c12] at hh
          refine lv_iconst (v := 0) C.1 C.2.1 dX8_readBook_60 (by decide) ?_
          exact r_bretW hQ C hr hm hs (by decide) hh dX8_readBook_61
        · rw [if_neg c12] at hh
          refine r_aload_n C.1 C.2.1 dX8_readBook_26 rfl (lv_at hl 0 rfl) ?_
          refine r_getI C hm flX8_32 dX8_readBook_27 hh (fun x3 _ hh => ?_)
          refine lv_if_ne (tgt := 35) C.1 C.2.1 dX8_readBook_30 (by decide) (fun c11 => ?_) (fun c11 => ?_)
          · rw [if_neg c11] at hh
            refine r_aload_n C.1 C.2.1 dX8_readBook_35 rfl (lv_at hl 0 rfl) ?_
            refine lv_bipush (v := 59) C.1 C.2.1 dX8_readBook_36 (by decide) ?_
            refine r_cV C X hm hs mlX8_36 mvX8_36 hh (vv := fun r => some (.int r)) (hp := fun r => r1.2) (fun b r hg => c_X8_isSign l G r1.2 b _ r hg) rfl rfl (Nat.le_of_ble_eq_true rfl) (Nat.le_of_ble_eq_true rfl) (Nat.le_of_ble_eq_true rfl) hl.1 dX8_readBook_38 (fun b5 r4 H locs hgr4 hh hm hs => ?_)
            refine W.eq (g2 := F0 m 41 ls [.int r4]) rfl ?_
            refine lv_if_ne (tgt := 50) C.1 C.2.1 dX8_readBook_41 (by decide) (fun c10 => ?_) (fun c10 => ?_)
            · rw [if_neg c10] at hh
              refine r_aload_n C.1 C.2.1 dX8_readBook_50 rfl (lv_at hl 0 rfl) ?_
              refine r_cV C X hm hs mlX8_43 mvX8_43 hh (vv := fun r => none) (hp := fun r => r) (fun b r hg => c_X8_step l G r1.2 b  r hg) rfl rfl (Nat.le_of_ble_eq_true rfl) (Nat.le_of_ble_eq_true rfl) (Nat.le_of_ble_eq_true rfl) hl.1 dX8_readBook_51 (fun b7 r6 H locs hgr6 hh hm hs => ?_)
              refine W.eq (g2 := F0 m 54 ls []) rfl ?_
              refine lv_iinc (v := (v3 + 1)) (lv' := [(3, .int (v3 + 1)), (0, va_rf (some a0))]) C.1 C.2.1 dX8_readBook_54 hl (k := 1) rfl rfl (by decide) rfl (fun ls hl => ?_)
              refine lv_goto (tgt := 12) C.1 C.2.1 dX8_readBook_57 (by decide) ?_
              exact ih _ _ _ _ _ _  hm hs (lv_sub hl [1, 0] rfl) hh
            · rw [if_pos c10] at hh
              refine r_aload_n C.1 C.2.1 dX8_readBook_44 rfl (lv_at hl 0 rfl) ?_
              refine lv_iconst (v := 1) C.1 C.2.1 dX8_readBook_45 (by decide) ?_
              refine r_cV C X hm hs mlX8_40 mvX8_40 hh (vv := fun r => some (.int r.1)) (hp := fun r => r.2) (fun b r hg => c_X8_fail l G r1.2 b _ r hg) rfl rfl (Nat.le_of_ble_eq_true rfl) (Nat.le_of_ble_eq_true rfl) (Nat.le_of_ble_eq_true rfl) hl.1 dX8_readBook_46 (fun b9 r8 H locs hgr8 hh hm hs => ?_)
              refine W.eq (g2 := F0 m 49 ls [.int r8.1]) rfl ?_
              exact r_rbretW hQ C hr hm hs hh dX8_readBook_49
          · rw [if_pos c11] at hh
            refine lv_iconst (v := 1) C.1 C.2.1 dX8_readBook_33 (by decide) ?_
            exact r_bretW hQ C hr hm hs (by decide) hh dX8_readBook_34
  unfold mX8_readBook at hh
  refine r_aload_n C.1 C.2.1 dX8_readBook_0 rfl (lv_at hl 2 rfl) ?_
  refine r_cV C X hm hs mlX8_19 mvX8_19 hh (vv := fun r => none) (hp := fun r => r) (fun b r hg => c_X1_clear l G h b  r hg) rfl rfl (Nat.le_of_ble_eq_true rfl) (Nat.le_of_ble_eq_true rfl) (Nat.le_of_ble_eq_true rfl) hl.1 dX8_readBook_1 (fun b15 r14 H locs hgr14 hh hm hs => ?_)
  refine W.eq (g2 := F0 m 4 ls []) rfl ?_
  refine r_aload_n C.1 C.2.1 dX8_readBook_4 rfl (lv_at hl 0 rfl) ?_
  refine lv_iload_n C.1 C.2.1 dX8_readBook_5 rfl (lv_at hl 1 rfl) ?_
  refine r_aload_n C.1 C.2.1 dX8_readBook_6 rfl (lv_at hl 2 rfl) ?_
  refine r_cV C X hm hs mlX8_24 mvX8_24 hh (vv := fun r => none) (hp := fun r => r) (fun b r hg => c_X8_begin l G r14 b _ _ r hg) rfl rfl (Nat.le_of_ble_eq_true rfl) (Nat.le_of_ble_eq_true rfl) (Nat.le_of_ble_eq_true rfl) hl.1 dX8_readBook_7 (fun b17 r16 H locs hgr16 hh hm hs => ?_)
  refine W.eq (g2 := F0 m 10 ls []) rfl ?_
  refine lv_iconst (v := 0) C.1 C.2.1 dX8_readBook_10 (by decide) ?_
  refine lv_istore_n (i := 3) (lv' := [(3, .int 0), (0, va_rf (some a0)), (1, .int a1), (2, va_rf a2)]) C.1 C.2.1 dX8_readBook_11 rfl hl (by decide) (by simp [va_cat, vc_i, vc_l, vc_r]) (fun ls hl => ?_)
  exact B12 FUEL _ _ _ _ _ _  hm hs (lv_sub hl [1, 0] rfl) hh
def mX8_readBy (h : MHp) (a0 : Nat) (a1 : Option Nat) : Option (Int32 × MHp) := (rcv 9 h (some a0)).bind fun b2 => (mX8_isWord h b2 25209).bind fun r1 => (if r1 = 0 then some (1, h) else (rcv 9 h (some a0)).bind fun b4 => (mX8_step h b4).bind fun r3 => (rcv 9 r3 (some a0)).bind fun b6 => (mX8_knownField r3 b6).bind fun r5 => (if r5.1 = (-1) then some (0, r5.2) else (gR 9 8 r5.2 (some a0)).bind fun x7 => (rcv 2 r5.2 x7).bind fun b9 => (mX1_topOf r5.2 b9 r5.1).bind fun r8 => (rcv 8 r5.2 a1).bind fun b11 => (mX7_by r5.2 b11 r5.1 r8).bind fun r10 => (rcv 9 r10 (some a0)).bind fun b13 => (mX8_step r10 b13).bind fun r12 => (rcv 9 r12 (some a0)).bind fun b15 => (mX8_isSign r12 b15 44).bind fun r14 => (if r14 = 0 then some (1, r12) else (rcv 9 r12 (some a0)).bind fun b17 => (mX8_step r12 b17).bind fun r16 => (rcv 9 r16 (some a0)).bind fun b19 => (mX8_knownField r16 b19).bind fun r18 => (if r18.1 = (-1) then some (0, r18.2) else (if r18.1 = r5.1 then (rcv 9 r18.2 (some a0)).bind fun b28 => (mX8_fail r18.2 b28 3).bind fun r27 => (rB r27.1).bind fun _ => some (r27.1, r27.2) else (gR 9 8 r18.2 (some a0)).bind fun x20 => (rcv 2 r18.2 x20).bind fun b22 => (mX1_topOf r18.2 b22 r18.1).bind fun r21 => (rcv 8 r18.2 a1).bind fun b24 => (mX7_andBy r18.2 b24 r18.1 r21).bind fun r23 => (rcv 9 r23 (some a0)).bind fun b26 => (mX8_step r23 b26).bind fun r25 => some (1, r25))))))
set_option maxRecDepth 100000 in
set_option maxHeartbeats 4000000 in
theorem c_X8_readBy (l : Launch) (G : Env0) (h : MHp) (a0 : Nat) (a1 : Option Nat) (res : Int32 × MHp) (hh : mX8_readBy h a0 a1 = some res) : MG l yX8_readBy cX8_readBy 4 (some .boolean) 2 44 0 0 G h [.ref a0, va_rf a1] (some (.int res.1)) (res.2) := by
  refine MG_of (own := RX8) (plainFor_of_name (by decide)) rfl (by simp [lg_sl, va_cat, vc_i, vc_l, vc_r]) ?_
  intro p e s m args below meth c Q ls hQ C X hin hm hs hl hr
  have hl : lv_has ls 4 [(0, .ref a0), (1, va_rf a1)] := by simpa [lv_args, va_cat, vc_i, vc_l, vc_r] using hl
  have hl : lv_has ls 4 [(0, va_rf (some a0)), (1, va_rf a1)] := hl
  unfold mX8_readBy at hh
  refine r_aload_n C.1 C.2.1 dX8_readBy_0 rfl (lv_at hl 0 rfl) ?_
  refine lv_ldc2 (v := 25209) C.1 C.2.1 C.2.2.2.1 (C.2.2.2.2.1 _ (in_tbl q_524 rfl)) dX8_readBy_1 ?_
  refine r_cV C X hm hs mlX8_58 mvX8_58 hh (vv := fun r => some (.int r)) (hp := fun r => h) (fun b r hg => c_X8_isWord l G h b _ r hg) rfl rfl (Nat.le_of_ble_eq_true rfl) (Nat.le_of_ble_eq_true rfl) (Nat.le_of_ble_eq_true rfl) hl.1 dX8_readBy_4 (fun b2 r1 H locs hgr1 hh hm hs => ?_)
  refine W.eq (g2 := F0 m 7 ls [.int r1]) rfl ?_
  refine lv_if_ne (tgt := 12) C.1 C.2.1 dX8_readBy_7 (by decide) (fun c33 => ?_) (fun c33 => ?_)
  · rw [if_neg c33] at hh
    refine r_aload_n C.1 C.2.1 dX8_readBy_12 rfl (lv_at hl 0 rfl) ?_
    refine r_cV C X hm hs mlX8_43 mvX8_43 hh (vv := fun r => none) (hp := fun r => r) (fun b r hg => c_X8_step l G h b  r hg) rfl rfl (Nat.le_of_ble_eq_true rfl) (Nat.le_of_ble_eq_true rfl) (Nat.le_of_ble_eq_true rfl) hl.1 dX8_readBy_13 (fun b4 r3 H locs hgr3 hh hm hs => ?_)
    refine W.eq (g2 := F0 m 16 ls []) rfl ?_
    refine r_aload_n C.1 C.2.1 dX8_readBy_16 rfl (lv_at hl 0 rfl) ?_
    refine r_cV C X hm hs mlX8_142 mvX8_142 hh (vv := fun r => some (.int r.1)) (hp := fun r => r.2) (fun b r hg => c_X8_knownField l G r3 b  r hg) rfl rfl (Nat.le_of_ble_eq_true rfl) (Nat.le_of_ble_eq_true rfl) (Nat.le_of_ble_eq_true rfl) hl.1 dX8_readBy_17 (fun b6 r5 H locs hgr5 hh hm hs => ?_)
    refine W.eq (g2 := F0 m 20 ls [.int r5.1]) rfl ?_
    refine lv_istore_n (i := 2) (lv' := [(2, .int r5.1), (0, va_rf (some a0)), (1, va_rf a1)]) C.1 C.2.1 dX8_readBy_20 rfl hl (by decide) (by simp [va_cat, vc_i, vc_l, vc_r]) (fun ls hl => ?_)
    refine lv_iload_n C.1 C.2.1 dX8_readBy_21 rfl (lv_at hl 0 rfl) ?_
    refine lv_iconst (v := (-1)) C.1 C.2.1 dX8_readBy_22 (by decide) ?_
    refine lv_icmp_ne (tgt := 28) C.1 C.2.1 dX8_readBy_23 (by decide) (fun c32 => ?_) (fun c32 => ?_)
    · rw [if_neg c32] at hh
      refine r_aload_n C.1 C.2.1 dX8_readBy_28 rfl (lv_at hl 2 rfl) ?_
      refine lv_iload_n C.1 C.2.1 dX8_readBy_29 rfl (lv_at hl 0 rfl) ?_
      refine r_aload_n C.1 C.2.1 dX8_readBy_30 rfl (lv_at hl 1 rfl) ?_
      refine r_getR C hm flX8_15 dX8_readBy_31 hh (fun x7 _ hh => ?_)
      refine lv_iload_n C.1 C.2.1 dX8_readBy_34 rfl (lv_at hl 0 rfl) ?_
      refine r_cV C X hm hs mlX8_162 mvX8_162 hh (vv := fun r => some (.int r)) (hp := fun r => r5.2) (fun b r hg => c_X1_topOf l G r5.2 b _ r hg) rfl rfl (by simp [va_cat, vc_i, vc_l, vc_r]) (Nat.le_of_ble_eq_true rfl) (Nat.le_of_ble_eq_true rfl) hl.1 dX8_readBy_35 (fun b9 r8 H locs hgr8 hh hm hs => ?_)
      refine W.eq (g2 := F0 m 38 ls [.int r8, .int r5.1, va_rf a1]) rfl ?_
      refine r_cV C X hm hs mlX8_166 mvX8_166 hh (vv := fun r => none) (hp := fun r => r) (fun b r hg => c_X7_by l G r5.2 b _ _ r hg) rfl rfl (Nat.le_of_ble_eq_true rfl) (Nat.le_of_ble_eq_true rfl) (Nat.le_of_ble_eq_true rfl) hl.1 dX8_readBy_38 (fun b11 r10 H locs hgr10 hh hm hs => ?_)
      refine W.eq (g2 := F0 m 41 ls []) rfl ?_
      refine r_aload_n C.1 C.2.1 dX8_readBy_41 rfl (lv_at hl 1 rfl) ?_
      refine r_cV C X hm hs mlX8_43 mvX8_43 hh (vv := fun r => none) (hp := fun r => r) (fun b r hg => c_X8_step l G r10 b  r hg) rfl rfl (Nat.le_of_ble_eq_true rfl) (Nat.le_of_ble_eq_true rfl) (Nat.le_of_ble_eq_true rfl) hl.1 dX8_readBy_42 (fun b13 r12 H locs hgr12 hh hm hs => ?_)
      refine W.eq (g2 := F0 m 45 ls []) rfl ?_
      refine r_aload_n C.1 C.2.1 dX8_readBy_45 rfl (lv_at hl 1 rfl) ?_
      refine lv_bipush (v := 44) C.1 C.2.1 dX8_readBy_46 (by decide) ?_
      refine r_cV C X hm hs mlX8_36 mvX8_36 hh (vv := fun r => some (.int r)) (hp := fun r => r12) (fun b r hg => c_X8_isSign l G r12 b _ r hg) rfl rfl (Nat.le_of_ble_eq_true rfl) (Nat.le_of_ble_eq_true rfl) (Nat.le_of_ble_eq_true rfl) hl.1 dX8_readBy_48 (fun b15 r14 H locs hgr14 hh hm hs => ?_)
      refine W.eq (g2 := F0 m 51 ls [.int r14]) rfl ?_
      refine lv_if_ne (tgt := 56) C.1 C.2.1 dX8_readBy_51 (by decide) (fun c31 => ?_) (fun c31 => ?_)
      · rw [if_neg c31] at hh
        refine r_aload_n C.1 C.2.1 dX8_readBy_56 rfl (lv_at hl 1 rfl) ?_
        refine r_cV C X hm hs mlX8_43 mvX8_43 hh (vv := fun r => none) (hp := fun r => r) (fun b r hg => c_X8_step l G r12 b  r hg) rfl rfl (Nat.le_of_ble_eq_true rfl) (Nat.le_of_ble_eq_true rfl) (Nat.le_of_ble_eq_true rfl) hl.1 dX8_readBy_57 (fun b17 r16 H locs hgr16 hh hm hs => ?_)
        refine W.eq (g2 := F0 m 60 ls []) rfl ?_
        refine r_aload_n C.1 C.2.1 dX8_readBy_60 rfl (lv_at hl 1 rfl) ?_
        refine r_cV C X hm hs mlX8_142 mvX8_142 hh (vv := fun r => some (.int r.1)) (hp := fun r => r.2) (fun b r hg => c_X8_knownField l G r16 b  r hg) rfl rfl (Nat.le_of_ble_eq_true rfl) (Nat.le_of_ble_eq_true rfl) (Nat.le_of_ble_eq_true rfl) hl.1 dX8_readBy_61 (fun b19 r18 H locs hgr18 hh hm hs => ?_)
        refine W.eq (g2 := F0 m 64 ls [.int r18.1]) rfl ?_
        refine lv_istore_n (i := 3) (lv' := [(3, .int r18.1), (2, .int r5.1), (0, va_rf (some a0)), (1, va_rf a1)]) C.1 C.2.1 dX8_readBy_64 rfl hl (by decide) rfl (fun ls hl => ?_)
        refine lv_iload_n C.1 C.2.1 dX8_readBy_65 rfl (lv_at hl 0 rfl) ?_
        refine lv_iconst (v := (-1)) C.1 C.2.1 dX8_readBy_66 (by decide) ?_
        refine lv_icmp_ne (tgt := 72) C.1 C.2.1 dX8_readBy_67 (by decide) (fun c30 => ?_) (fun c30 => ?_)
        · rw [if_neg c30] at hh
          refine lv_iload_n C.1 C.2.1 dX8_readBy_72 rfl (lv_at hl 0 rfl) ?_
          refine lv_iload_n C.1 C.2.1 dX8_readBy_73 rfl (lv_at hl 1 rfl) ?_
          refine lv_icmp_ne (tgt := 83) C.1 C.2.1 dX8_readBy_74 (by decide) (fun c29 => ?_) (fun c29 => ?_)
          · rw [if_neg c29] at hh
            refine r_aload_n C.1 C.2.1 dX8_readBy_83 rfl (lv_at hl 3 rfl) ?_
            refine lv_iload_n C.1 C.2.1 dX8_readBy_84 rfl (lv_at hl 0 rfl) ?_
            refine r_aload_n C.1 C.2.1 dX8_readBy_85 rfl (lv_at hl 2 rfl) ?_
            refine r_getR C hm flX8_15 dX8_readBy_86 hh (fun x20 _ hh => ?_)
            refine lv_iload_n C.1 C.2.1 dX8_readBy_89 rfl (lv_at hl 0 rfl) ?_
            refine r_cV C X hm hs mlX8_162 mvX8_162 hh (vv := fun r => some (.int r)) (hp := fun r => r18.2) (fun b r hg => c_X1_topOf l G r18.2 b _ r hg) rfl rfl (by simp [va_cat, vc_i, vc_l, vc_r]) (Nat.le_of_ble_eq_true rfl) (Nat.le_of_ble_eq_true rfl) hl.1 dX8_readBy_90 (fun b22 r21 H locs hgr21 hh hm hs => ?_)
            refine W.eq (g2 := F0 m 93 ls [.int r21, .int r18.1, va_rf a1]) rfl ?_
            refine r_cV C X hm hs mlX8_170 mvX8_170 hh (vv := fun r => none) (hp := fun r => r) (fun b r hg => c_X7_andBy l G r18.2 b _ _ r hg) rfl rfl (Nat.le_of_ble_eq_true rfl) (Nat.le_of_ble_eq_true rfl) (Nat.le_of_ble_eq_true rfl) hl.1 dX8_readBy_93 (fun b24 r23 H locs hgr23 hh hm hs => ?_)
            refine W.eq (g2 := F0 m 96 ls []) rfl ?_
            refine r_aload_n C.1 C.2.1 dX8_readBy_96 rfl (lv_at hl 2 rfl) ?_
            refine r_cV C X hm hs mlX8_43 mvX8_43 hh (vv := fun r => none) (hp := fun r => r) (fun b r hg => c_X8_step l G r23 b  r hg) rfl rfl (Nat.le_of_ble_eq_true rfl) (Nat.le_of_ble_eq_true rfl) (Nat.le_of_ble_eq_true rfl) hl.1 dX8_readBy_97 (fun b26 r25 H locs hgr25 hh hm hs => ?_)
            refine W.eq (g2 := F0 m 100 ls []) rfl ?_
            refine lv_iconst (v := 1) C.1 C.2.1 dX8_readBy_100 (by decide) ?_
            exact r_bretW hQ C hr hm hs (by decide) hh dX8_readBy_101
          · rw [if_pos c29] at hh
            refine r_aload_n C.1 C.2.1 dX8_readBy_77 rfl (lv_at hl 2 rfl) ?_
            refine lv_iconst (v := 3) C.1 C.2.1 dX8_readBy_78 (by decide) ?_
            refine r_cV C X hm hs mlX8_40 mvX8_40 hh (vv := fun r => some (.int r.1)) (hp := fun r => r.2) (fun b r hg => c_X8_fail l G r18.2 b _ r hg) rfl rfl (Nat.le_of_ble_eq_true rfl) (Nat.le_of_ble_eq_true rfl) (Nat.le_of_ble_eq_true rfl) hl.1 dX8_readBy_79 (fun b28 r27 H locs hgr27 hh hm hs => ?_)
            refine W.eq (g2 := F0 m 82 ls [.int r27.1]) rfl ?_
            exact r_rbretW hQ C hr hm hs hh dX8_readBy_82
        · rw [if_pos c30] at hh
          refine lv_iconst (v := 0) C.1 C.2.1 dX8_readBy_70 (by decide) ?_
          exact r_bretW hQ C hr hm hs (by decide) hh dX8_readBy_71
      · rw [if_pos c31] at hh
        refine lv_iconst (v := 1) C.1 C.2.1 dX8_readBy_54 (by decide) ?_
        exact r_bretW hQ C hr hm hs (by decide) hh dX8_readBy_55
    · rw [if_pos c32] at hh
      refine lv_iconst (v := 0) C.1 C.2.1 dX8_readBy_26 (by decide) ?_
      exact r_bretW hQ C hr hm hs (by decide) hh dX8_readBy_27
  · rw [if_pos c33] at hh
    refine lv_iconst (v := 1) C.1 C.2.1 dX8_readBy_10 (by decide) ?_
    exact r_bretW hQ C hr hm hs (by decide) hh dX8_readBy_11
def mX8_readWhat (h : MHp) (a0 : Nat) (a1 : Option Nat) : Option (Int32 × MHp) := (rcv 9 h (some a0)).bind fun b2 => (mX8_isWord h b2 427071729268).bind fun r1 => (if r1 = 0 then (rcv 9 h (some a0)).bind fun b4 => (mX8_isWord h b4 7566701).bind fun r3 => (if r3 = 0 then (rcv 9 h (some a0)).bind fun b15 => (mX8_fail h b15 1).bind fun r14 => (rB r14.1).bind fun _ => some (r14.1, r14.2) else (rcv 9 h (some a0)).bind fun b6 => (mX8_step h b6).bind fun r5 => (rcv 9 r5 (some a0)).bind fun b8 => (mX8_knownField r5 b8).bind fun r7 => (pI 8 3 r7.2 a1 r7.1).bind fun h9 => (gI 8 3 h9 a1).bind fun x10 => (if x10 = (-1) then some (0, h9) else (rcv 9 h9 (some a0)).bind fun b12 => (mX8_step h9 b12).bind fun r11 => some (1, r11))) else (rcv 9 h (some a0)).bind fun b18 => (mX8_step h b18).bind fun r17 => some (1, r17))
set_option maxRecDepth 100000 in
set_option maxHeartbeats 4000000 in
theorem c_X8_readWhat (l : Launch) (G : Env0) (h : MHp) (a0 : Nat) (a1 : Option Nat) (res : Int32 × MHp) (hh : mX8_readWhat h a0 a1 = some res) : MG l yX8_readWhat cX8_readWhat 2 (some .boolean) 2 44 0 0 G h [.ref a0, va_rf a1] (some (.int res.1)) (res.2) := by
  refine MG_of (own := RX8) (plainFor_of_name (by decide)) rfl (by simp [lg_sl, va_cat, vc_i, vc_l, vc_r]) ?_
  intro p e s m args below meth c Q ls hQ C X hin hm hs hl hr
  have hl : lv_has ls 2 [(0, .ref a0), (1, va_rf a1)] := by simpa [lv_args, va_cat, vc_i, vc_l, vc_r] using hl
  have hl : lv_has ls 2 [(0, va_rf (some a0)), (1, va_rf a1)] := hl
  unfold mX8_readWhat at hh
  refine r_aload_n C.1 C.2.1 dX8_readWhat_0 rfl (lv_at hl 0 rfl) ?_
  refine lv_ldc2 (v := 427071729268) C.1 C.2.1 C.2.2.2.1 (C.2.2.2.2.1 _ (in_tbl q_522 rfl)) dX8_readWhat_1 ?_
  refine r_cV C X hm hs mlX8_58 mvX8_58 hh (vv := fun r => some (.int r)) (hp := fun r => h) (fun b r hg => c_X8_isWord l G h b _ r hg) rfl rfl (Nat.le_of_ble_eq_true rfl) (Nat.le_of_ble_eq_true rfl) (Nat.le_of_ble_eq_true rfl) hl.1 dX8_readWhat_4 (fun b2 r1 H locs hgr1 hh hm hs => ?_)
  refine W.eq (g2 := F0 m 7 ls [.int r1]) rfl ?_
  refine lv_if_eq (tgt := 16) C.1 C.2.1 dX8_readWhat_7 (by decide) (fun c19 => ?_) (fun c19 => ?_)
  · rw [if_pos c19] at hh
    refine r_aload_n C.1 C.2.1 dX8_readWhat_16 rfl (lv_at hl 0 rfl) ?_
    refine lv_ldc2 (v := 7566701) C.1 C.2.1 C.2.2.2.1 (C.2.2.2.2.1 _ (in_tbl q_523 rfl)) dX8_readWhat_17 ?_
    refine r_cV C X hm hs mlX8_58 mvX8_58 hh (vv := fun r => some (.int r)) (hp := fun r => h) (fun b r hg => c_X8_isWord l G h b _ r hg) rfl rfl (Nat.le_of_ble_eq_true rfl) (Nat.le_of_ble_eq_true rfl) (Nat.le_of_ble_eq_true rfl) hl.1 dX8_readWhat_20 (fun b4 r3 H locs hgr3 hh hm hs => ?_)
    refine W.eq (g2 := F0 m 23 ls [.int r3]) rfl ?_
    refine lv_if_ne (tgt := 32) C.1 C.2.1 dX8_readWhat_23 (by decide) (fun c16 => ?_) (fun c16 => ?_)
    · rw [if_neg c16] at hh
      refine r_aload_n C.1 C.2.1 dX8_readWhat_32 rfl (lv_at hl 0 rfl) ?_
      refine r_cV C X hm hs mlX8_43 mvX8_43 hh (vv := fun r => none) (hp := fun r => r) (fun b r hg => c_X8_step l G h b  r hg) rfl rfl (Nat.le_of_ble_eq_true rfl) (Nat.le_of_ble_eq_true rfl) (Nat.le_of_ble_eq_true rfl) hl.1 dX8_readWhat_33 (fun b6 r5 H locs hgr5 hh hm hs => ?_)
      refine W.eq (g2 := F0 m 36 ls []) rfl ?_
      refine r_aload_n C.1 C.2.1 dX8_readWhat_36 rfl (lv_at hl 1 rfl) ?_
      refine r_aload_n C.1 C.2.1 dX8_readWhat_37 rfl (lv_at hl 0 rfl) ?_
      refine r_cV C X hm hs mlX8_142 mvX8_142 hh (vv := fun r => some (.int r.1)) (hp := fun r => r.2) (fun b r hg => c_X8_knownField l G r5 b  r hg) rfl rfl (by simp [va_cat, vc_i, vc_l, vc_r]) (Nat.le_of_ble_eq_true rfl) (Nat.le_of_ble_eq_true rfl) hl.1 dX8_readWhat_38 (fun b8 r7 H locs hgr7 hh hm hs => ?_)
      refine W.eq (g2 := F0 m 41 ls [.int r7.1, va_rf a1]) rfl ?_
      refine r_putI C hm hs flX8_157 (Or.inl fm_8_3) dX8_readWhat_41 hh (fun h9 H locs _ hh hm hs => ?_)
      refine r_aload_n C.1 C.2.1 dX8_readWhat_44 rfl (lv_at hl 1 rfl) ?_
      refine r_getI C hm flX8_157 dX8_readWhat_45 hh (fun x10 _ hh => ?_)
      refine lv_iconst (v := (-1)) C.1 C.2.1 dX8_readWhat_48 (by decide) ?_
      refine lv_icmp_ne (tgt := 54) C.1 C.2.1 dX8_readWhat_49 (by decide) (fun c13 => ?_) (fun c13 => ?_)
      · rw [if_neg c13] at hh
        refine r_aload_n C.1 C.2.1 dX8_readWhat_54 rfl (lv_at hl 0 rfl) ?_
        refine r_cV C X hm hs mlX8_43 mvX8_43 hh (vv := fun r => none) (hp := fun r => r) (fun b r hg => c_X8_step l G h9 b  r hg) rfl rfl (Nat.le_of_ble_eq_true rfl) (Nat.le_of_ble_eq_true rfl) (Nat.le_of_ble_eq_true rfl) hl.1 dX8_readWhat_55 (fun b12 r11 H locs hgr11 hh hm hs => ?_)
        refine W.eq (g2 := F0 m 58 ls []) rfl ?_
        refine lv_iconst (v := 1) C.1 C.2.1 dX8_readWhat_58 (by decide) ?_
        exact r_bretW hQ C hr hm hs (by decide) hh dX8_readWhat_59
      · rw [if_pos c13] at hh
        refine lv_iconst (v := 0) C.1 C.2.1 dX8_readWhat_52 (by decide) ?_
        exact r_bretW hQ C hr hm hs (by decide) hh dX8_readWhat_53
    · rw [if_pos c16] at hh
      refine r_aload_n C.1 C.2.1 dX8_readWhat_26 rfl (lv_at hl 0 rfl) ?_
      refine lv_iconst (v := 1) C.1 C.2.1 dX8_readWhat_27 (by decide) ?_
      refine r_cV C X hm hs mlX8_40 mvX8_40 hh (vv := fun r => some (.int r.1)) (hp := fun r => r.2) (fun b r hg => c_X8_fail l G h b _ r hg) rfl rfl (Nat.le_of_ble_eq_true rfl) (Nat.le_of_ble_eq_true rfl) (Nat.le_of_ble_eq_true rfl) hl.1 dX8_readWhat_28 (fun b15 r14 H locs hgr14 hh hm hs => ?_)
      refine W.eq (g2 := F0 m 31 ls [.int r14.1]) rfl ?_
      exact r_rbretW hQ C hr hm hs hh dX8_readWhat_31
  · rw [if_neg c19] at hh
    refine r_aload_n C.1 C.2.1 dX8_readWhat_10 rfl (lv_at hl 0 rfl) ?_
    refine r_cV C X hm hs mlX8_43 mvX8_43 hh (vv := fun r => none) (hp := fun r => r) (fun b r hg => c_X8_step l G h b  r hg) rfl rfl (Nat.le_of_ble_eq_true rfl) (Nat.le_of_ble_eq_true rfl) (Nat.le_of_ble_eq_true rfl) hl.1 dX8_readWhat_11 (fun b18 r17 H locs hgr17 hh hm hs => ?_)
    refine W.eq (g2 := F0 m 14 ls []) rfl ?_
    refine lv_iconst (v := 1) C.1 C.2.1 dX8_readWhat_14 (by decide) ?_
    exact r_bretW hQ C hr hm hs (by decide) hh dX8_readWhat_15
def mX8_readTable_b55 (h : MHp) (a0 : Nat) : Option (Int32 × MHp) := (gI 9 5 h (some a0)).bind fun x1 => (if x1 = 0 then some (1, h) else (rcv 9 h (some a0)).bind fun b3 => (mX8_fail h b3 1).bind fun r2 => (if r2.1 = 0 then some (0, r2.2) else some (1, r2.2)))
def mX8_readTable (h : MHp) (a0 : Nat) (a1 : Int32) (a2 : Option Nat) (a3 : Option Nat) : Option (Int32 × MHp) := (rcv 8 h a2).bind fun b7 => (mX7_clear h b7).bind fun r6 => (rcv 9 r6 (some a0)).bind fun b9 => (mX8_begin r6 b9 a1 a3).bind fun r8 => (rcv 9 r8 (some a0)).bind fun b11 => (mX8_readWhat r8 b11 a2).bind fun r10 => (if r10.1 = 0 then some (0, r10.2) else (rcv 9 r10.2 (some a0)).bind fun b13 => (mX8_readBy r10.2 b13 a2).bind fun r12 => (if r12.1 = 0 then some (0, r12.2) else (rcv 9 r12.2 (some a0)).bind fun b15 => (mX8_isWord r12.2 b15 512852587109).bind fun r14 => (if r14 = 0 then mX8_readTable_b55 r12.2 a0 else (rcv 9 r12.2 (some a0)).bind fun b17 => (mX8_step r12.2 b17).bind fun r16 => (gR 8 0 r16 a2).bind fun x18 => (rcv 9 r16 (some a0)).bind fun b20 => (mX8_readTest r16 b20 x18).bind fun r19 => (if r19.1 = 0 then some (0, r19.2) else mX8_readTable_b55 r19.2 a0))))
set_option maxRecDepth 100000 in
set_option maxHeartbeats 4000000 in
theorem c_X8_readTable (l : Launch) (G : Env0) (h : MHp) (a0 : Nat) (a1 : Int32) (a2 : Option Nat) (a3 : Option Nat) (res : Int32 × MHp) (hh : mX8_readTable h a0 a1 a2 a3 = some res) : MG l yX8_readTable cX8_readTable 4 (some .boolean) 4 91 0 0 G h [.ref a0, .int a1, va_rf a2, va_rf a3] (some (.int res.1)) (res.2) := by
  refine MG_of (own := RX8) (plainFor_of_name (by decide)) rfl (by simp [lg_sl, va_cat, vc_i, vc_l, vc_r]) ?_
  intro p e s m args below meth c Q ls hQ C X hin hm hs hl hr
  have hl : lv_has ls 4 [(0, .ref a0), (1, .int a1), (2, va_rf a2), (3, va_rf a3)] := by simpa [lv_args, va_cat, vc_i, vc_l, vc_r] using hl
  have hl : lv_has ls 4 [(0, va_rf (some a0)), (1, .int a1), (2, va_rf a2), (3, va_rf a3)] := hl
  have B55 : ∀ (h : MHp) (H : Heap) (locs : List Loc) (ls : Array Slot) (a0 : Nat) , mHp (gD G) (gC G) (gB G) h H → va_S (fun q => gB G ≤ q) s.heap H locs → lv_has ls 4 [(0, va_rf (some a0))] → mX8_readTable_b55 h a0 = some res → W p l e ({ frames := 4, cells := 0, slots := 0, locals := 91 }) s m args below meth c H locs 0 0 Q (F0 m 55 ls []) := by
    intro h H locs ls a0 hm hs hl hh
    unfold mX8_readTable_b55 at hh
    refine r_aload_n C.1 C.2.1 dX8_readTable_55 rfl (lv_at hl 0 rfl) ?_
    refine r_getI C hm flX8_32 dX8_readTable_56 hh (fun x1 _ hh => ?_)
    refine lv_if_eq (tgt := 70) C.1 C.2.1 dX8_readTable_59 (by decide) (fun c5 => ?_) (fun c5 => ?_)
    · rw [if_pos c5] at hh
      refine lv_iconst (v := 1) C.1 C.2.1 dX8_readTable_70 (by decide) ?_
      refine lv_goto (tgt := 75) C.1 C.2.1 dX8_readTable_71 (by decide) ?_
      exact r_bretW hQ C hr hm hs (by decide) hh dX8_readTable_75
    · rw [if_neg c5] at hh
      refine r_aload_n C.1 C.2.1 dX8_readTable_62 rfl (lv_at hl 0 rfl) ?_
      refine lv_iconst (v := 1) C.1 C.2.1 dX8_readTable_63 (by decide) ?_
      refine r_cV C X hm hs mlX8_40 mvX8_40 hh (vv := fun r => some (.int r.1)) (hp := fun r => r.2) (fun b r hg => c_X8_fail l G h b _ r hg) rfl rfl (Nat.le_of_ble_eq_true rfl) (Nat.le_of_ble_eq_true rfl) (Nat.le_of_ble_eq_true rfl) hl.1 dX8_readTable_64 (fun b3 r2 H locs hgr2 hh hm hs => ?_)
      refine W.eq (g2 := F0 m 67 ls [.int r2.1]) rfl ?_
      refine lv_if_eq (tgt := 74) C.1 C.2.1 dX8_readTable_67 (by decide) (fun c4 => ?_) (fun c4 => ?_)
      · rw [if_pos c4] at hh
        refine lv_iconst (v := 0) C.1 C.2.1 dX8_readTable_74 (by decide) ?_
        exact r_bretW hQ C hr hm hs (by decide) hh dX8_readTable_75
      · rw [if_neg c4] at hh
        refine lv_iconst (v := 1) C.1 C.2.1 dX8_readTable_70 (by decide) ?_
        refine lv_goto (tgt := 75) C.1 C.2.1 dX8_readTable_71 (by decide) ?_
        exact r_bretW hQ C hr hm hs (by decide) hh dX8_readTable_75
  unfold mX8_readTable at hh
  refine r_aload_n C.1 C.2.1 dX8_readTable_0 rfl (lv_at hl 2 rfl) ?_
  refine r_cV C X hm hs mlX8_46 mvX8_46 hh (vv := fun r => none) (hp := fun r => r) (fun b r hg => c_X7_clear l G h b  r hg) rfl rfl (Nat.le_of_ble_eq_true rfl) (Nat.le_of_ble_eq_true rfl) (Nat.le_of_ble_eq_true rfl) hl.1 dX8_readTable_1 (fun b7 r6 H locs hgr6 hh hm hs => ?_)
  refine W.eq (g2 := F0 m 4 ls []) rfl ?_
  refine r_aload_n C.1 C.2.1 dX8_readTable_4 rfl (lv_at hl 0 rfl) ?_
  refine lv_iload_n C.1 C.2.1 dX8_readTable_5 rfl (lv_at hl 1 rfl) ?_
  refine r_aload_n C.1 C.2.1 dX8_readTable_6 rfl (lv_at hl 3 rfl) ?_
  refine r_cV C X hm hs mlX8_24 mvX8_24 hh (vv := fun r => none) (hp := fun r => r) (fun b r hg => c_X8_begin l G r6 b _ _ r hg) rfl rfl (Nat.le_of_ble_eq_true rfl) (Nat.le_of_ble_eq_true rfl) (Nat.le_of_ble_eq_true rfl) hl.1 dX8_readTable_7 (fun b9 r8 H locs hgr8 hh hm hs => ?_)
  refine W.eq (g2 := F0 m 10 ls []) rfl ?_
  refine r_aload_n C.1 C.2.1 dX8_readTable_10 rfl (lv_at hl 0 rfl) ?_
  refine r_aload_n C.1 C.2.1 dX8_readTable_11 rfl (lv_at hl 2 rfl) ?_
  refine r_cV C X hm hs mlX8_49 mvX8_49 hh (vv := fun r => some (.int r.1)) (hp := fun r => r.2) (fun b r hg => c_X8_readWhat l G r8 b _ r hg) rfl rfl (Nat.le_of_ble_eq_true rfl) (Nat.le_of_ble_eq_true rfl) (Nat.le_of_ble_eq_true rfl) hl.1 dX8_readTable_12 (fun b11 r10 H locs hgr10 hh hm hs => ?_)
  refine W.eq (g2 := F0 m 15 ls [.int r10.1]) rfl ?_
  refine lv_if_eq (tgt := 26) C.1 C.2.1 dX8_readTable_15 (by decide) (fun c24 => ?_) (fun c24 => ?_)
  · rw [if_pos c24] at hh
    refine lv_iconst (v := 0) C.1 C.2.1 dX8_readTable_26 (by decide) ?_
    exact r_bretW hQ C hr hm hs (by decide) hh dX8_readTable_27
  · rw [if_neg c24] at hh
    refine r_aload_n C.1 C.2.1 dX8_readTable_18 rfl (lv_at hl 0 rfl) ?_
    refine r_aload_n C.1 C.2.1 dX8_readTable_19 rfl (lv_at hl 2 rfl) ?_
    refine r_cV C X hm hs mlX8_53 mvX8_53 hh (vv := fun r => some (.int r.1)) (hp := fun r => r.2) (fun b r hg => c_X8_readBy l G r10.2 b _ r hg) rfl rfl (Nat.le_of_ble_eq_true rfl) (Nat.le_of_ble_eq_true rfl) (Nat.le_of_ble_eq_true rfl) hl.1 dX8_readTable_20 (fun b13 r12 H locs hgr12 hh hm hs => ?_)
    refine W.eq (g2 := F0 m 23 ls [.int r12.1]) rfl ?_
    refine lv_if_ne (tgt := 28) C.1 C.2.1 dX8_readTable_23 (by decide) (fun c23 => ?_) (fun c23 => ?_)
    · rw [if_neg c23] at hh
      refine r_aload_n C.1 C.2.1 dX8_readTable_28 rfl (lv_at hl 0 rfl) ?_
      refine lv_ldc2 (v := 512852587109) C.1 C.2.1 C.2.2.2.1 (C.2.2.2.2.1 _ (in_tbl q_525 rfl)) dX8_readTable_29 ?_
      refine r_cV C X hm hs mlX8_58 mvX8_58 hh (vv := fun r => some (.int r)) (hp := fun r => r12.2) (fun b r hg => c_X8_isWord l G r12.2 b _ r hg) rfl rfl (Nat.le_of_ble_eq_true rfl) (Nat.le_of_ble_eq_true rfl) (Nat.le_of_ble_eq_true rfl) hl.1 dX8_readTable_32 (fun b15 r14 H locs hgr14 hh hm hs => ?_)
      refine W.eq (g2 := F0 m 35 ls [.int r14]) rfl ?_
      refine lv_if_eq (tgt := 55) C.1 C.2.1 dX8_readTable_35 (by decide) (fun c22 => ?_) (fun c22 => ?_)
      · rw [if_pos c22] at hh
        exact B55 _ _ _ _ _  hm hs (lv_sub hl [0] rfl) hh
      · rw [if_neg c22] at hh
        refine r_aload_n C.1 C.2.1 dX8_readTable_38 rfl (lv_at hl 0 rfl) ?_
        refine r_cV C X hm hs mlX8_43 mvX8_43 hh (vv := fun r => none) (hp := fun r => r) (fun b r hg => c_X8_step l G r12.2 b  r hg) rfl rfl (Nat.le_of_ble_eq_true rfl) (Nat.le_of_ble_eq_true rfl) (Nat.le_of_ble_eq_true rfl) hl.1 dX8_readTable_39 (fun b17 r16 H locs hgr16 hh hm hs => ?_)
        refine W.eq (g2 := F0 m 42 ls []) rfl ?_
        refine r_aload_n C.1 C.2.1 dX8_readTable_42 rfl (lv_at hl 0 rfl) ?_
        refine r_aload_n C.1 C.2.1 dX8_readTable_43 rfl (lv_at hl 2 rfl) ?_
        refine r_getR C hm flX8_62 dX8_readTable_44 hh (fun x18 _ hh => ?_)
        refine r_cV C X hm hs mlX8_66 mvX8_66 hh (vv := fun r => some (.int r.1)) (hp := fun r => r.2) (fun b r hg => c_X8_readTest l G r16 b _ r hg) rfl rfl (Nat.le_of_ble_eq_true rfl) (Nat.le_of_ble_eq_true rfl) (Nat.le_of_ble_eq_true rfl) hl.1 dX8_readTable_47 (fun b20 r19 H locs hgr19 hh hm hs => ?_)
        refine W.eq (g2 := F0 m 50 ls [.int r19.1]) rfl ?_
        refine lv_if_ne (tgt := 55) C.1 C.2.1 dX8_readTable_50 (by decide) (fun c21 => ?_) (fun c21 => ?_)
        · rw [if_neg c21] at hh
          exact B55 _ _ _ _ _  hm hs (lv_sub hl [0] rfl) hh
        · rw [if_pos c21] at hh
          refine lv_iconst (v := 0) C.1 C.2.1 dX8_readTable_53 (by decide) ?_
          exact r_bretW hQ C hr hm hs (by decide) hh dX8_readTable_54
    · rw [if_pos c23] at hh
      refine lv_iconst (v := 0) C.1 C.2.1 dX8_readTable_26 (by decide) ?_
      exact r_bretW hQ C hr hm hs (by decide) hh dX8_readTable_27

def mX11_led_b40 (h : MHp) (t0 : Int32) : Option ((Int32 ⊕ Nat) × MHp) := (if t0 = (-1) then some (Sum.inr (hS h), nX h) else some (Sum.inl t0, h))
def mX11_led (h : MHp) (a0 : Nat) (a1 : Int32) (a2 : Int32) (a3 : Int32) (a4 : Int32) : Option ((Int32 ⊕ Nat) × MHp) := (rcv 12 h (some a0)).bind fun b3 => (mX11_hasCell h b3 a1 a2 a3).bind fun r2 => (if r2 = 0 then mX11_led_b40 h (-1) else (gR 12 7 h (some a0)).bind fun x4 => (gR 12 3 h (some a0)).bind fun x5 => (gAR 24 h x5 a1).bind fun x6 => (gR 12 3 h (some a0)).bind fun x7 => (gAR 24 h x7 a1).bind fun x8 => (rcv 8 h x8).bind fun b10 => (mX7_cellAt h b10 a2 a3).bind fun r9 => (rcv 3 h x4).bind fun b12 => (mX2_rowIn h b12 x6 r9 a4).bind fun r11 => mX11_led_b40 r11.2 r11.1)
set_option maxRecDepth 100000 in
set_option maxHeartbeats 4000000 in
theorem c_X11_led (l : Launch) (hst : l.stackTraces = false) (G : Env0) (h : MHp) (a0 : Nat) (a1 : Int32) (a2 : Int32) (a3 : Int32) (a4 : Int32) (res : (Int32 ⊕ Nat) × MHp) (hh : mX11_led h a0 a1 a2 a3 a4 = some res) : UN l yX11_led cX11_led 6 (some .int) 6 121 1 6 G h [.ref a0, .int a1, .int a2, .int a3, .int a4] (fun v => some (.int v)) res := by
  refine UN_of (own := RX11) (by decide) rfl (Nat.le_of_ble_eq_true rfl) ?_
  intro p e s m args below meth c Q ls hQ C X hx0 hm hs hl hr
  have hl : lv_has ls 6 [(0, va_rf (some a0)), (1, .int a1), (2, .int a2), (3, .int a3), (4, .int a4)] := hl
  have B40 : ∀ (h : MHp) (H : Heap) (locs : List Loc) (ls : Array Slot) (t0 : Int32) , mHp (gD G) (gC G) (gB G) h H → va_S (fun q => gB G ≤ q) s.heap H locs → lv_has ls 6 [] → mX11_led_b40 h t0 = some res → W p l e ({ frames := 6, cells := 1, slots := 6, locals := 121 }) s m args below meth c H locs 0 0 Q (F0 m 40 ls [.int t0]) := by
    intro h H locs ls t0 hm hs hl hh
    unfold mX11_led_b40 at hh
    refine lv_istore (i := 5) (lv' := [(5, .int t0)]) C.1 C.2.1 dX11_led_40 hl (by decide) rfl (fun ls hl => ?_)
    refine lv_iload C.1 C.2.1 dX11_led_42 (lv_at hl 0 rfl) ?_
    refine lv_iconst (v := (-1)) C.1 C.2.1 dX11_led_44 (by decide) ?_
    refine lv_icmp_ne (tgt := 56) C.1 C.2.1 dX11_led_45 (by decide) (fun c1 => ?_) (fun c1 => ?_)
    · rw [if_neg c1] at hh
      refine lv_iload C.1 C.2.1 dX11_led_56 (lv_at hl 0 rfl) ?_
      refine W.widen (k := 1) (n := 6) (by omega) (by omega) ?_
      exact r_nretI hQ C hr hm hs hh dX11_led_58
    · rw [if_pos c1] at hh
      exact r_nthrow hQ C hst X hx0 hm hs hh hl.1 dX11_led_48 dX11_led_51 dX11_led_52 dX11_led_55 (Nat.le_of_ble_eq_true rfl) (Nat.le_of_ble_eq_true rfl) (Nat.le_of_ble_eq_true rfl) (Nat.le_of_ble_eq_true rfl) (Nat.le_of_ble_eq_true rfl) (Nat.le_of_ble_eq_true rfl)
  unfold mX11_led at hh
  refine r_aload_n C.1 C.2.1 dX11_led_0 rfl (lv_at hl 0 rfl) ?_
  refine lv_iload_n C.1 C.2.1 dX11_led_1 rfl (lv_at hl 1 rfl) ?_
  refine lv_iload_n C.1 C.2.1 dX11_led_2 rfl (lv_at hl 2 rfl) ?_
  refine lv_iload_n C.1 C.2.1 dX11_led_3 rfl (lv_at hl 3 rfl) ?_
  refine r_cV (hroom := ⟨(Nat.le_of_ble_eq_true rfl), (Nat.le_of_ble_eq_true rfl)⟩) C X hm hs mlX11_250 mvX11_250 hh (vv := fun r => some (.int r)) (hp := fun r => h) (fun b r hg => c_X11_hasCell l G h b _ _ _ r hg) rfl rfl (Nat.le_of_ble_eq_true rfl) (Nat.le_of_ble_eq_true rfl) (Nat.le_of_ble_eq_true rfl) hl.1 dX11_led_4 (fun b3 r2 H locs hgr2 hh hm hs => ?_)
  refine W.eq (g2 := F0 m 7 ls [.int r2]) rfl ?_
  refine lv_if_eq (tgt := 39) C.1 C.2.1 dX11_led_7 (by decide) (fun c13 => ?_) (fun c13 => ?_)
  · rw [if_pos c13] at hh
    refine lv_iconst (v := (-1)) C.1 C.2.1 dX11_led_39 (by decide) ?_
    exact B40 _ _ _ _ _  hm hs (lv_sub hl [] rfl) hh
  · rw [if_neg c13] at hh
    refine r_aload_n C.1 C.2.1 dX11_led_10 rfl (lv_at hl 0 rfl) ?_
    refine r_getR C hm flX11_72 dX11_led_11 hh (fun x4 _ hh => ?_)
    refine r_aload_n C.1 C.2.1 dX11_led_14 rfl (lv_at hl 0 rfl) ?_
    refine r_getR C hm flX11_40 dX11_led_15 hh (fun x5 _ hh => ?_)
    refine lv_iload_n C.1 C.2.1 dX11_led_18 rfl (lv_at hl 1 rfl) ?_
    refine r_ald_q C hm dX11_led_19 (kd := 24) (by decide) (t0 := 4) rfl hh (fun x6 _ hh => ?_)
    refine r_aload_n C.1 C.2.1 dX11_led_20 rfl (lv_at hl 0 rfl) ?_
    refine r_getR C hm flX11_40 dX11_led_21 hh (fun x7 _ hh => ?_)
    refine lv_iload_n C.1 C.2.1 dX11_led_24 rfl (lv_at hl 1 rfl) ?_
    refine r_ald_q C hm dX11_led_25 (kd := 24) (by decide) (t0 := 4) rfl hh (fun x8 _ hh => ?_)
    refine lv_iload_n C.1 C.2.1 dX11_led_26 rfl (lv_at hl 2 rfl) ?_
    refine lv_iload_n C.1 C.2.1 dX11_led_27 rfl (lv_at hl 3 rfl) ?_
    refine r_cV (hroom := ⟨(Nat.le_of_ble_eq_true rfl), (Nat.le_of_ble_eq_true rfl)⟩) C X hm hs mlX11_254 mvX11_254 hh (vv := fun r => some (.int r)) (hp := fun r => h) (fun b r hg => c_X7_cellAt l G h b _ _ r hg) rfl rfl (by simp [va_cat, vc_i, vc_l, vc_r]) (Nat.le_of_ble_eq_true rfl) (Nat.le_of_ble_eq_true rfl) hl.1 dX11_led_28 (fun b10 r9 H locs hgr9 hh hm hs => ?_)
    refine W.eq (g2 := F0 m 31 ls [.int r9, va_rf x6, va_rf x4]) rfl ?_
    refine lv_iload C.1 C.2.1 dX11_led_31 (lv_at hl 4 rfl) ?_
    refine r_cV (hroom := ⟨(Nat.le_of_ble_eq_true rfl), (Nat.le_of_ble_eq_true rfl)⟩) C X hm hs mlX11_398 mvX11_398 hh (vv := fun r => some (.int r.1)) (hp := fun r => r.2) (fun b r hg => c_X2_rowIn l G h b _ _ _ r hg) rfl rfl (Nat.le_of_ble_eq_true rfl) (Nat.le_of_ble_eq_true rfl) (Nat.le_of_ble_eq_true rfl) hl.1 dX11_led_33 (fun b12 r11 H locs hgr11 hh hm hs => ?_)
    refine W.eq (g2 := F0 m 36 ls [.int r11.1]) rfl ?_
    refine lv_goto (tgt := 40) C.1 C.2.1 dX11_led_36 (by decide) ?_
    exact B40 _ _ _ _ _  hm hs (lv_sub hl [] rfl) hh
def mL_led (h : MHp) (a0 : Option Nat) (a1 : Int32) (a2 : Int32) (a3 : Int32) (a4 : Int32) (a5 : Option Nat) : Option (Int32 × MHp) := (rcv 12 h a0).bind fun b2 => (mX11_led h b2 a1 a2 a3 a4).bind fun r1 => (match r1 with | (Sum.inl x4, h3) => (pAL 21 h3 a5 0 x4.toInt64).bind fun h5 => some (0, h5) | (Sum.inr q6, h3) => some (1, h3))
set_option maxRecDepth 100000 in
set_option maxHeartbeats 4000000 in
theorem c_L_led (l : Launch) (hst : l.stackTraces = false) (G : Env0) (h : MHp) (a0 : Option Nat) (a1 : Int32) (a2 : Int32) (a3 : Int32) (a4 : Int32) (a5 : Option Nat) (res : Int32 × MHp) (hh : mL_led h a0 a1 a2 a3 a4 a5 = some res) : MGW l yL_led cL_led 7 (some .int) [(0, 14, 17, 13)] 7 146 1 6 G h [va_rf a0, .int a1, .int a2, .int a3, .int a4, va_rf a5] (some (.int res.1)) (res.2) := by
  refine MGW_of (own := RL) (by decide) rfl (by simp [lg_sl, va_cat, vc_i, vc_l, vc_r]) ?_
  intro p e s m args below meth c Q ls hQ C X htab hm hs hl hr
  have hl : lv_has ls 7 [(0, va_rf a0), (1, .int a1), (2, .int a2), (3, .int a3), (4, .int a4), (5, va_rf a5)] := by simpa [lv_args, va_cat, vc_i, vc_l, vc_r] using hl
  have hl : lv_has ls 7 [(0, va_rf a0), (1, .int a1), (2, .int a2), (3, .int a3), (4, .int a4), (5, va_rf a5)] := hl
  unfold mL_led at hh
  refine r_aload C.1 C.2.1 dL_led_0 (lv_at hl 5 rfl) ?_
  refine lv_iconst (v := 0) C.1 C.2.1 dL_led_2 (by decide) ?_
  refine r_aload_n C.1 C.2.1 dL_led_3 rfl (lv_at hl 0 rfl) ?_
  refine lv_iload_n C.1 C.2.1 dL_led_4 rfl (lv_at hl 1 rfl) ?_
  refine lv_iload_n C.1 C.2.1 dL_led_5 rfl (lv_at hl 2 rfl) ?_
  refine lv_iload_n C.1 C.2.1 dL_led_6 rfl (lv_at hl 3 rfl) ?_
  refine lv_iload C.1 C.2.1 dL_led_7 (lv_at hl 4 rfl) ?_
  refine r_nV C X hm hs mlL_7 (in_tbl q_1211 rfl) mvL_7 hh (vv := (fun v => some (.int v))) (fun b r hg => c_X11_led l hst G h b _ _ _ _ r hg) rfl rfl (by simp [va_cat, vc_i, vc_l, vc_r]) (Nat.le_of_ble_eq_true rfl) (Nat.le_of_ble_eq_true rfl) hl.1 ⟨(Nat.le_of_ble_eq_true rfl), (Nat.le_of_ble_eq_true rfl)⟩ dL_led_9 (fun q6 b2 h3 ce H locs _ hh hm hs e1 e2 e3 => ?_) (fun b2 x4 h3 H locs _ hh hm hs => ?_)
  · try dsimp only at hh
    refine ux_catch (E := nsE) (name := nsE) C.2.2.2.1 [] _ [] htab (fun z hz => nomatch hz) (by decide) (by decide) (C.2.2.2.2.1 _ (in_tbl q_1210 rfl)) (C.2.2.2.2.1 _ castNs) e1 e2 e3 ?_
    refine W.eq (g2 := F0 m 17 ls [va_rf (some q6)]) rfl ?_
    refine r_astore (i := 6) (lv' := [(6, va_rf (some q6)), (0, va_rf a0), (1, .int a1), (2, .int a2), (3, .int a3), (4, .int a4), (5, va_rf a5)]) C.1 C.2.1 dL_led_17 hl (by decide) (by simp [va_cat, vc_i, vc_l, vc_r]) (fun ls hl => ?_)
    refine lv_iconst (v := 1) C.1 C.2.1 dL_led_19 (by decide) ?_
    refine W.widen (k := 1) (n := 6) (by omega) (by omega) ?_
    exact r_iretW hQ C hr hm hs hh dL_led_20
  · try dsimp only at hh
    refine W.eq (g2 := F0 m 12 ls [.int x4, .int 0, va_rf a5]) rfl ?_
    refine lv_i2l (v := x4.toInt64) C.1 C.2.1 dL_led_12 rfl ?_
    refine r_last C hm hs dL_led_13 hh (fun h5 H locs _ hh hm hs => ?_)
    refine lv_goto (tgt := 21) C.1 C.2.1 dL_led_14 (by decide) ?_
    refine lv_iconst (v := 0) C.1 C.2.1 dL_led_21 (by decide) ?_
    refine W.widen (k := 1) (n := 6) (by omega) (by omega) ?_
    exact r_iretW hQ C hr hm hs hh dL_led_22

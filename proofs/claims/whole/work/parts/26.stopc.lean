def mE1_init (h : MHp) (a0 : Nat) (a1 : Option Nat) (a2 : Option Nat) (a3 : Int32) (a4 : Int32) : Option (MHp) := (mE2g h a0 a1 a2 a3 a4).bind fun r1 => some r1
set_option maxRecDepth 100000 in
set_option maxHeartbeats 4000000 in
theorem c_E1_init (l : Launch) (G : Env0) (h : MHp) (a0 : Nat) (a1 : Option Nat) (a2 : Option Nat) (a3 : Int32) (a4 : Int32) (res : MHp) (hh : mE1_init h a0 a1 a2 a3 a4 = some res) : MG l yE1_init cE1_init 5 none 2 36 0 0 G h [.ref a0, va_rf a1, va_rf a2, .int a3, .int a4] (none) (res) := by
  refine MG_of (own := RE1) (plainFor_of_name (by decide)) rfl (by simp [lg_sl, va_cat, vc_i, vc_l, vc_r]) ?_
  intro p e s m args below meth c Q ls hQ C X hin hm hs hl hr
  have hl : lv_has ls 5 [(0, .ref a0), (1, va_rf a1), (2, va_rf a2), (3, .int a3), (4, .int a4)] := by simpa [lv_args, va_cat, vc_i, vc_l, vc_r] using hl
  have hl : lv_has ls 5 [(0, va_rf (some a0)), (1, va_rf a1), (2, va_rf a2), (3, .int a3), (4, .int a4)] := hl
  unfold mE1_init at hh
  refine r_aload_n C.1 C.2.1 dE1_init_0 rfl (lv_at hl 0 rfl) ?_
  refine r_aload_n C.1 C.2.1 dE1_init_1 rfl (lv_at hl 1 rfl) ?_
  refine r_aload_n C.1 C.2.1 dE1_init_2 rfl (lv_at hl 2 rfl) ?_
  refine lv_iload_n C.1 C.2.1 dE1_init_3 rfl (lv_at hl 3 rfl) ?_
  refine lv_iload C.1 C.2.1 dE1_init_4 (lv_at hl 4 rfl) ?_
  refine r_cC C X hm hs mlE1_16 mcE1_16 hh (hp := fun r => r) (fun r hg => c_E2g l G h _ _ _ _ _ r hg) rfl rfl (Nat.le_of_ble_eq_true rfl) (Nat.le_of_ble_eq_true rfl) (Nat.le_of_ble_eq_true rfl) ⟨(Nat.le_of_ble_eq_true rfl), (Nat.le_of_ble_eq_true rfl)⟩ hl.1 dE1_init_6 (fun r1 H locs hgr1 hh hm hs => ?_)
  exact r_vretW hQ C hr hm hs hh dE1_init_9
def mE0_init (h : MHp) (a0 : Nat) (a1 : Option Nat) (a2 : Option Nat) (a3 : Int32) (a4 : Int32) : Option (MHp) := (mE1_init h a0 a1 a2 a3 a4).bind fun r1 => some r1
set_option maxRecDepth 100000 in
set_option maxHeartbeats 4000000 in
theorem c_E0_init (l : Launch) (G : Env0) (h : MHp) (a0 : Nat) (a1 : Option Nat) (a2 : Option Nat) (a3 : Int32) (a4 : Int32) (res : MHp) (hh : mE0_init h a0 a1 a2 a3 a4 = some res) : MG l yE0_init cE0_init 5 none 3 60 0 0 G h [.ref a0, va_rf a1, va_rf a2, .int a3, .int a4] (none) (res) := by
  refine MG_of (own := RE0) (plainFor_of_name (by decide)) rfl (by simp [lg_sl, va_cat, vc_i, vc_l, vc_r]) ?_
  intro p e s m args below meth c Q ls hQ C X hin hm hs hl hr
  have hl : lv_has ls 5 [(0, .ref a0), (1, va_rf a1), (2, va_rf a2), (3, .int a3), (4, .int a4)] := by simpa [lv_args, va_cat, vc_i, vc_l, vc_r] using hl
  have hl : lv_has ls 5 [(0, va_rf (some a0)), (1, va_rf a1), (2, va_rf a2), (3, .int a3), (4, .int a4)] := hl
  unfold mE0_init at hh
  refine r_aload_n C.1 C.2.1 dE0_init_0 rfl (lv_at hl 0 rfl) ?_
  refine r_aload_n C.1 C.2.1 dE0_init_1 rfl (lv_at hl 1 rfl) ?_
  refine r_aload_n C.1 C.2.1 dE0_init_2 rfl (lv_at hl 2 rfl) ?_
  refine lv_iload_n C.1 C.2.1 dE0_init_3 rfl (lv_at hl 3 rfl) ?_
  refine lv_iload C.1 C.2.1 dE0_init_4 (lv_at hl 4 rfl) ?_
  refine r_cC C X hm hs mlE0_16 mcE0_16 hh (hp := fun r => r) (fun r hg => c_E1_init l G h _ _ _ _ _ r hg) rfl rfl (Nat.le_of_ble_eq_true rfl) (Nat.le_of_ble_eq_true rfl) (Nat.le_of_ble_eq_true rfl) ⟨(Nat.le_of_ble_eq_true rfl), (Nat.le_of_ble_eq_true rfl)⟩ hl.1 dE0_init_6 (fun r1 H locs hgr1 hh hm hs => ?_)
  exact r_vretW hQ C hr hm hs hh dE0_init_9
def mX13_init (h : MHp) (a0 : Nat) : Option (MHp) := (mE0_init h a0 none none 0 0).bind fun r1 => some r1
set_option maxRecDepth 100000 in
set_option maxHeartbeats 4000000 in
theorem c_X13_init (l : Launch) (G : Env0) (h : MHp) (a0 : Nat) (res : MHp) (hh : mX13_init h a0 = some res) : MG l yX13_init cX13_init 1 none 4 84 0 0 G h [.ref a0] (none) (res) := by
  refine MG_of (own := RX13) (plainFor_of_name (by decide)) rfl (Nat.le_of_ble_eq_true rfl) ?_
  intro p e s m args below meth c Q ls hQ C X hin hm hs hl hr
  have hl : lv_has ls 1 [(0, va_rf (some a0))] := hl
  unfold mX13_init at hh
  refine r_aload_n C.1 C.2.1 dX13_init_0 rfl (lv_at hl 0 rfl) ?_
  refine lv_null C.1 C.2.1 dX13_init_1 ?_
  refine lv_null C.1 C.2.1 dX13_init_2 ?_
  refine lv_iconst (v := 0) C.1 C.2.1 dX13_init_3 (by decide) ?_
  refine lv_iconst (v := 0) C.1 C.2.1 dX13_init_4 (by decide) ?_
  refine r_cC C X hm hs mlX13_1 mcX13_1 hh (hp := fun r => r) (fun r hg => c_E0_init l G h _ _ _ _ _ r hg) rfl rfl (Nat.le_of_ble_eq_true rfl) (Nat.le_of_ble_eq_true rfl) (Nat.le_of_ble_eq_true rfl) ⟨(Nat.le_of_ble_eq_true rfl), (Nat.le_of_ble_eq_true rfl)⟩ hl.1 dX13_init_5 (fun r1 H locs hgr1 hh hm hs => ?_)
  exact r_vretW hQ C hr hm hs hh dX13_init_8

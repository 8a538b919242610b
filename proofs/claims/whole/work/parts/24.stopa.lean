def mE2_init_b41 (h : MHp) (a0 : Nat) (v1 : Option Nat) (v2 : Option Nat) (v3 : Int32) : Option (MHp) := (pR 14 3 h (some a0) v1).bind fun h1 => (pR 14 0 h1 (some a0) v2).bind fun h2 => (if v3 = 0 then (pR 14 2 h2 (some a0) none).bind fun h3 => some h3 else some h2)
def mE2_init (h : MHp) (a0 : Nat) (a1 : Option Nat) (a2 : Option Nat) (a3 : Int32) (a4 : Int32) (o1 o2 : Option Nat) : Option (MHp) := (pR 14 0 h (some a0) (some a0)).bind fun h5 => (pR 14 1 h5 (some a0) o1).bind fun h6 => (pR 14 2 h6 (some a0) o2).bind fun h7 => (if a4 = 0 then (pR 14 1 h7 (some a0) none).bind fun h8 => mE2_init_b41 h8 a0 a1 a2 a3 else none)
set_option maxRecDepth 100000 in
set_option maxHeartbeats 4000000 in
theorem c_E2_init (l : Launch) (G : Env0) (h : MHp) (a0 : Nat) (a1 : Option Nat) (a2 : Option Nat) (a3 : Int32) (a4 : Int32) (res : MHp) (hh : ∀ o1 o2 : Option Nat, mE2_init h a0 a1 a2 a3 a4 o1 o2 = some res) : MG l yE2_init cE2_init 5 none 1 12 0 0 G h [.ref a0, va_rf a1, va_rf a2, .int a3, .int a4] (none) (res) := by
  refine MG_of (own := RE2) (plainFor_of_name (by decide)) rfl (by simp [lg_sl, va_cat, vc_i, vc_l, vc_r]) ?_
  intro p e s m args below meth c Q ls hQ C X hin hm hs hl hr
  have hl : lv_has ls 5 [(0, .ref a0), (1, va_rf a1), (2, va_rf a2), (3, .int a3), (4, .int a4)] := by simpa [lv_args, va_cat, vc_i, vc_l, vc_r] using hl
  have hl : lv_has ls 5 [(0, va_rf (some a0)), (1, va_rf a1), (2, va_rf a2), (3, .int a3), (4, .int a4)] := hl
  obtain ⟨o1, ho1⟩ := zq_some X.2.2.2.2.1.1
  obtain ⟨o2, ho2⟩ := zq_some X.2.2.2.2.2.1.1
  have hh := hh o1 o2
  have B41 : ∀ (h : MHp) (H : Heap) (locs : List Loc) (ls : Array Slot) (a0 : Nat) (v1 : Option Nat) (v2 : Option Nat) (v3 : Int32) , mHp (gD G) (gC G) (gB G) h H → va_S (fun q => gB G ≤ q) s.heap H locs → lv_has ls 5 [(0, va_rf (some a0)), (1, va_rf v1), (2, va_rf v2), (3, .int v3)] → mE2_init_b41 h a0 v1 v2 v3 = some res → W p l e ({ frames := 1, cells := 0, slots := 0, locals := 12 }) s m args below meth c H locs 0 0 Q (F0 m 41 ls []) := by
    intro h H locs ls a0 v1 v2 v3 hm hs hl hh
    unfold mE2_init_b41 at hh
    refine r_aload_n C.1 C.2.1 dE2_init_41 rfl (lv_at hl 0 rfl) ?_
    refine r_aload_n C.1 C.2.1 dE2_init_42 rfl (lv_at hl 1 rfl) ?_
    refine r_putR C hm hs flE2_31 (Or.inl fm_14_3) dE2_init_43 hh (fun h1 H locs _ hh hm hs => ?_)
    refine r_aload_n C.1 C.2.1 dE2_init_46 rfl (lv_at hl 0 rfl) ?_
    refine r_aload_n C.1 C.2.1 dE2_init_47 rfl (lv_at hl 2 rfl) ?_
    refine r_putR C hm hs flE2_7 (Or.inl fm_14_0) dE2_init_48 hh (fun h2 H locs _ hh hm hs => ?_)
    refine lv_iload_n C.1 C.2.1 dE2_init_51 rfl (lv_at hl 3 rfl) ?_
    refine lv_if_ne (tgt := 60) C.1 C.2.1 dE2_init_52 (by decide) (fun c4 => ?_) (fun c4 => ?_)
    · rw [if_neg c4] at hh
      exact r_vretW hQ C hr hm hs hh dE2_init_60
    · rw [if_pos c4] at hh
      refine r_aload_n C.1 C.2.1 dE2_init_55 rfl (lv_at hl 0 rfl) ?_
      refine lv_null C.1 C.2.1 dE2_init_56 ?_
      refine r_putR C hm hs flE2_24 (Or.inl fm_14_2) dE2_init_57 hh (fun h3 H locs _ hh hm hs => ?_)
      exact r_vretW hQ C hr hm hs hh dE2_init_60
  unfold mE2_init at hh
  refine r_aload_n C.1 C.2.1 dE2_init_0 rfl (lv_at hl 0 rfl) ?_
  refine r_objInit C (in_tbl q_1244 rfl) (in_tbl q_37 rfl) (in_tbl q_38 rfl) hl.1 dE2_init_1 (Nat.le_of_ble_eq_true rfl) (Nat.le_of_ble_eq_true rfl) ?_
  refine r_aload_n C.1 C.2.1 dE2_init_4 rfl (lv_at hl 0 rfl) ?_
  refine r_aload_n C.1 C.2.1 dE2_init_5 rfl (lv_at hl 0 rfl) ?_
  refine r_putR C hm hs flE2_7 (Or.inl fm_14_0) dE2_init_6 hh (fun h5 H locs _ hh hm hs => ?_)
  refine r_aload_n C.1 C.2.1 dE2_init_9 rfl (lv_at hl 0 rfl) ?_
  refine r_getsU C hs ho1 (in_tbl q_1245 rfl) dE2_init_10 ?_
  refine r_putR C hm hs flE2_17 (Or.inl fm_14_1) dE2_init_13 hh (fun h6 H locs _ hh hm hs => ?_)
  refine r_aload_n C.1 C.2.1 dE2_init_16 rfl (lv_at hl 0 rfl) ?_
  refine r_getsU C hs ho2 (in_tbl q_1247 rfl) dE2_init_17 ?_
  refine r_putR C hm hs flE2_24 (Or.inl fm_14_2) dE2_init_20 hh (fun h7 H locs _ hh hm hs => ?_)
  refine lv_iload C.1 C.2.1 dE2_init_23 (lv_at hl 4 rfl) ?_
  refine lv_if_eq (tgt := 36) C.1 C.2.1 dE2_init_25 (by decide) (fun c9 => ?_) (fun c9 => ?_)
  · rw [if_pos c9] at hh
    refine r_aload_n C.1 C.2.1 dE2_init_36 rfl (lv_at hl 0 rfl) ?_
    refine lv_null C.1 C.2.1 dE2_init_37 ?_
    refine r_putR C hm hs flE2_17 (Or.inl fm_14_1) dE2_init_38 hh (fun h8 H locs _ hh hm hs => ?_)
    exact B41 _ _ _ _ _ _ _ _  hm hs (lv_sub hl [0, 1, 2, 3] rfl) hh
  · rw [if_neg c9] at hh
    refine r_aload_n C.1 C.2.1 dE2_init_28 rfl (lv_at hl 0 rfl) ?_
    cases hh

def mX1_init_l44 : Nat → MHp → Nat → Int32 → Option (MHp)
  | 0, _, _, _ => none
  | n + 1, h, a0, v1 => (gR 2 3 h (some a0)).bind fun x1 => (gN 25 h x1).bind fun x2 => (if x2 ≤ v1 then some h else (gR 2 3 h (some a0)).bind fun x3 => (some (nO h 11 5)).bind fun h4 => (mX10_init h4 (hS h)).bind fun r5 => (pAR 25 11 r5 x3 v1 (some (hS h))).bind fun h7 => mX1_init_l44 n h7 a0 (v1 + 1))
def mX1_init (h : MHp) (a0 : Nat) : Option (MHp) := (some (nA h 21 6)).bind fun h9 => (pR 2 0 h9 (some a0) (some (hS h))).bind fun h10 => (some (nA h10 20 6)).bind fun h11 => (pR 2 1 h11 (some a0) (some (hS h10))).bind fun h12 => (some (nA h12 20 6)).bind fun h13 => (pR 2 2 h13 (some a0) (some (hS h12))).bind fun h14 => (some (nA h14 25 12)).bind fun h15 => (pR 2 3 h15 (some a0) (some (hS h14))).bind fun h16 => (pI 2 6 h16 (some a0) 1).bind fun h17 => mX1_init_l44 13 h17 a0 0
set_option maxRecDepth 100000 in
set_option maxHeartbeats 4000000 in
theorem c_X1_init (l : Launch) (G : Env0) (h : MHp) (a0 : Nat) (res : MHp) (hh : mX1_init h a0 = some res) : MG l yX1_init cX1_init 2 none 2 32 56 563 G h [.ref a0] (none) (res) := by
  refine MG_of (own := RX1) (plainFor_of_name (by decide)) rfl (Nat.le_of_ble_eq_true rfl) ?_
  intro p e s m args below meth c Q ls hQ C X hin hm hs hl hr
  have hl : lv_has ls 2 [(0, va_rf (some a0))] := hl
  have B44 : ∀ n : Nat, n ≤ 13 → ∀ (h : MHp) (H : Heap) (locs : List Loc) (ls : Array Slot) (a0 : Nat) (v1 : Int32) , mHp (gD G) (gC G) (gB G) h H → va_S (fun q => gB G ≤ q) s.heap H locs → lv_has ls 2 [(0, va_rf (some a0)), (1, .int v1)] → mX1_init_l44 n h a0 v1 = some res → W p l e ({ frames := 2, cells := 56, slots := 563, locals := 32 }) s m args below meth c H locs ((13 - n) * 4 + 4) ((13 - n) * 41 + 30) Q (F0 m 44 ls []) := by
    intro n
    induction n with
    | zero => intro hn h H locs ls a0 v1 hm hs hl hh; cases hh
    | succ n ih =>
      intro hn h H locs ls a0 v1 hm hs hl hh
      unfold mX1_init_l44 at hh
      refine lv_iload_n C.1 C.2.1 dX1_init_44 rfl (lv_at hl 1 rfl) ?_
      refine r_aload_n C.1 C.2.1 dX1_init_45 rfl (lv_at hl 0 rfl) ?_
      refine r_getR C hm flX1_24 dX1_init_46 hh (fun x1 _ hh => ?_)
      refine r_len C hm dX1_init_49 (kd := 25) (by decide) hh (fun x2 _ hh => ?_)
      refine lv_icmp_ge (tgt := 72) C.1 C.2.1 dX1_init_50 (by decide) (fun c8 => ?_) (fun c8 => ?_)
      · rw [if_pos c8] at hh
        refine W.widen (k := 56) (n := 563) (by omega) (by omega) ?_
        exact r_vretW hQ C hr hm hs hh dX1_init_72
      · rw [if_neg c8] at hh
        refine r_aload_n C.1 C.2.1 dX1_init_53 rfl (lv_at hl 0 rfl) ?_
        refine r_getR C hm flX1_24 dX1_init_54 hh (fun x3 _ hh => ?_)
        refine lv_iload_n C.1 C.2.1 dX1_init_57 rfl (lv_at hl 1 rfl) ?_
        refine r_newG C hm hs nlX1_22 (show _ ≤ _ by (try simp only); omega) (show _ ≤ _ by (try simp only); omega) dX1_init_58 hh (fun h4 H hh hm hs => ?_)
        refine lv_dup C.1 C.2.1 dX1_init_61 (va_cat _) ?_
        refine r_cC C X hm hs mlX1_32 mcX1_32 hh (hp := fun r => r) (fun r hg => c_X10_init l G h4 _  r hg) rfl rfl (by simp [va_cat, vc_i, vc_l, vc_r]) (Nat.le_of_ble_eq_true rfl) (Nat.le_of_ble_eq_true rfl) ⟨(show _ ≤ _ by (try simp only); omega), (show _ ≤ _ by (try simp only); omega)⟩ hl.1 dX1_init_62 (fun r5 H locs hgr5 hh hm hs => ?_)
        refine r_ast_q C hm hs dX1_init_65 (kd := 25) (kv := 11) (t0 := 5) (by decide) (by decide) rfl rfl hh (fun h7 H locs _ hh hm hs => ?_)
        refine lv_iinc (v := (v1 + 1)) (lv' := [(1, .int (v1 + 1)), (0, va_rf (some a0))]) C.1 C.2.1 dX1_init_66 hl (k := 1) rfl rfl (by decide) (by simp [va_cat, vc_i, vc_l, vc_r]) (fun ls hl => ?_)
        refine lv_goto (tgt := 44) C.1 C.2.1 dX1_init_69 (by decide) ?_
        refine W.widen (k := ((13 - n) * 4 + 4)) (n := ((13 - n) * 41 + 30)) (by omega) (by omega) ?_
        exact ih (by omega) _ _ _ _ _ _  hm hs (lv_sub hl [1, 0] rfl) hh
  unfold mX1_init at hh
  refine r_aload_n C.1 C.2.1 dX1_init_0 rfl (lv_at hl 0 rfl) ?_
  refine r_objInit C (in_tbl q_44 rfl) (in_tbl q_37 rfl) (in_tbl q_38 rfl) hl.1 dX1_init_1 (Nat.le_of_ble_eq_true rfl) (Nat.le_of_ble_eq_true rfl) ?_
  refine r_aload_n C.1 C.2.1 dX1_init_4 rfl (lv_at hl 0 rfl) ?_
  refine lv_bipush (v := 6) C.1 C.2.1 dX1_init_5 (by decide) ?_
  refine r_newaG C hm hs (kd := 21) (w := 8) (by decide) aw21 dX1_init_7 (N := 6) (by decide) (by decide) (by decide) hh (show _ ≤ _ by (try simp only); omega) (show _ ≤ _ by (try simp only); omega) (fun h9 H hh hm hs => ?_)
  refine r_putR C hm hs flX1_9 (Or.inr ⟨ffX1_9, hin rfl⟩) dX1_init_9 hh (fun h10 H locs _ hh hm hs => ?_)
  refine r_aload_n C.1 C.2.1 dX1_init_12 rfl (lv_at hl 0 rfl) ?_
  refine lv_bipush (v := 6) C.1 C.2.1 dX1_init_13 (by decide) ?_
  refine r_newaG C hm hs (kd := 20) (w := 4) (by decide) aw20 dX1_init_15 (N := 6) (by decide) (by decide) (by decide) hh (show _ ≤ _ by (try simp only); omega) (show _ ≤ _ by (try simp only); omega) (fun h11 H hh hm hs => ?_)
  refine r_putR C hm hs flX1_15 (Or.inr ⟨ffX1_15, hin rfl⟩) dX1_init_17 hh (fun h12 H locs _ hh hm hs => ?_)
  refine r_aload_n C.1 C.2.1 dX1_init_20 rfl (lv_at hl 0 rfl) ?_
  refine lv_bipush (v := 6) C.1 C.2.1 dX1_init_21 (by decide) ?_
  refine r_newaG C hm hs (kd := 20) (w := 4) (by decide) aw20 dX1_init_23 (N := 6) (by decide) (by decide) (by decide) hh (show _ ≤ _ by (try simp only); omega) (show _ ≤ _ by (try simp only); omega) (fun h13 H hh hm hs => ?_)
  refine r_putR C hm hs flX1_19 (Or.inr ⟨ffX1_19, hin rfl⟩) dX1_init_25 hh (fun h14 H locs _ hh hm hs => ?_)
  refine r_aload_n C.1 C.2.1 dX1_init_28 rfl (lv_at hl 0 rfl) ?_
  refine lv_bipush (v := 12) C.1 C.2.1 dX1_init_29 (by decide) ?_
  refine r_newqG C hm hs (kd := 25) (t0 := 5) (by decide) rfl X.2.2.1.2.1 (in_tbl q_45 rfl) dX1_init_31 (N := 12) (by decide) (by decide) (by decide) hh (show _ ≤ _ by (try simp only); omega) (show _ ≤ _ by (try simp only); omega) (fun h15 H hh hm hs => ?_)
  refine r_putR C hm hs flX1_24 (Or.inr ⟨ffX1_24, hin rfl⟩) dX1_init_34 hh (fun h16 H locs _ hh hm hs => ?_)
  refine r_aload_n C.1 C.2.1 dX1_init_37 rfl (lv_at hl 0 rfl) ?_
  refine lv_iconst (v := 1) C.1 C.2.1 dX1_init_38 (by decide) ?_
  refine r_putI C hm hs flX1_28 (Or.inl fm_2_6) dX1_init_39 hh (fun h17 H locs _ hh hm hs => ?_)
  refine lv_iconst (v := 0) C.1 C.2.1 dX1_init_42 (by decide) ?_
  refine lv_istore_n (i := 1) (lv' := [(1, .int 0), (0, va_rf (some a0))]) C.1 C.2.1 dX1_init_43 rfl hl (by decide) (by simp [va_cat, vc_i, vc_l, vc_r]) (fun ls hl => ?_)
  refine W.widen (k := ((13 - 13) * 4 + 4)) (n := ((13 - 13) * 41 + 30)) (by omega) (by omega) ?_
  exact B44 13 (Nat.le_refl _) _ _ _ _ _ _  hm hs (lv_sub hl [1, 0] rfl) hh
def mX1_clear (h : MHp) (a0 : Nat) : Option (MHp) := (pI 2 4 h (some a0) 0).bind fun h1 => (pI 2 5 h1 (some a0) 0).bind fun h2 => (pI 2 6 h2 (some a0) 1).bind fun h3 => some h3
set_option maxRecDepth 100000 in
set_option maxHeartbeats 4000000 in
theorem c_X1_clear (l : Launch) (G : Env0) (h : MHp) (a0 : Nat) (res : MHp) (hh : mX1_clear h a0 = some res) : MG l yX1_clear cX1_clear 1 none 0 0 0 0 G h [.ref a0] (none) (res) := by
  refine MG_of (own := RX1) (plainFor_of_name (by decide)) rfl (Nat.le_of_ble_eq_true rfl) ?_
  intro p e s m args below meth c Q ls hQ C X hin hm hs hl hr
  have hl : lv_has ls 1 [(0, va_rf (some a0))] := hl
  unfold mX1_clear at hh
  refine r_aload_n C.1 C.2.1 dX1_clear_0 rfl (lv_at hl 0 rfl) ?_
  refine lv_iconst (v := 0) C.1 C.2.1 dX1_clear_1 (by decide) ?_
  refine r_putI C hm hs flX1_33 (Or.inl fm_2_4) dX1_clear_2 hh (fun h1 H locs _ hh hm hs => ?_)
  refine r_aload_n C.1 C.2.1 dX1_clear_5 rfl (lv_at hl 0 rfl) ?_
  refine lv_iconst (v := 0) C.1 C.2.1 dX1_clear_6 (by decide) ?_
  refine r_putI C hm hs flX1_36 (Or.inl fm_2_5) dX1_clear_7 hh (fun h2 H locs _ hh hm hs => ?_)
  refine r_aload_n C.1 C.2.1 dX1_clear_10 rfl (lv_at hl 0 rfl) ?_
  refine lv_iconst (v := 1) C.1 C.2.1 dX1_clear_11 (by decide) ?_
  refine r_putI C hm hs flX1_28 (Or.inl fm_2_6) dX1_clear_12 hh (fun h3 H locs _ hh hm hs => ?_)
  exact r_vretW hQ C hr hm hs hh dX1_clear_15
def mX1_addField (h : MHp) (a0 : Nat) (a1 : Int64) (a2 : Int32) (a3 : Int32) : Option (MHp) := (gI 2 4 h (some a0)).bind fun x1 => (if x1 < 6 then (gR 2 0 h (some a0)).bind fun x2 => (gI 2 4 h (some a0)).bind fun x3 => (pAL 21 h x2 x3 a1).bind fun h4 => (gR 2 1 h4 (some a0)).bind fun x5 => (gI 2 4 h4 (some a0)).bind fun x6 => (pAI 20 h4 x5 x6 a2).bind fun h7 => (gR 2 2 h7 (some a0)).bind fun x8 => (gI 2 4 h7 (some a0)).bind fun x9 => (pAI 20 h7 x8 x9 a3).bind fun h10 => (gI 2 6 h10 (some a0)).bind fun x11 => (pI 2 6 h10 (some a0) (x11 * (a2 + 1))).bind fun h12 => (gI 2 4 h12 (some a0)).bind fun x13 => (pI 2 4 h12 (some a0) (x13 + 1)).bind fun h14 => some h14 else some h)
set_option maxRecDepth 100000 in
set_option maxHeartbeats 4000000 in
theorem c_X1_addField (l : Launch) (G : Env0) (h : MHp) (a0 : Nat) (a1 : Int64) (a2 : Int32) (a3 : Int32) (res : MHp) (hh : mX1_addField h a0 a1 a2 a3 = some res) : MG l yX1_addField cX1_addField 5 none 0 0 0 0 G h [.ref a0, .long a1, .int a2, .int a3] (none) (res) := by
  refine MG_of (own := RX1) (plainFor_of_name (by decide)) rfl (Nat.le_of_ble_eq_true rfl) ?_
  intro p e s m args below meth c Q ls hQ C X hin hm hs hl hr
  have hl : lv_has ls 5 [(0, va_rf (some a0)), (1, .long a1), (3, .int a2), (4, .int a3)] := hl
  unfold mX1_addField at hh
  refine r_aload_n C.1 C.2.1 dX1_addField_0 rfl (lv_at hl 0 rfl) ?_
  refine r_getI C hm flX1_33 dX1_addField_1 hh (fun x1 _ hh => ?_)
  refine lv_bipush (v := 6) C.1 C.2.1 dX1_addField_4 (by decide) ?_
  refine lv_icmp_lt (tgt := 10) C.1 C.2.1 dX1_addField_6 (by decide) (fun c15 => ?_) (fun c15 => ?_)
  · rw [if_pos c15] at hh
    refine r_aload_n C.1 C.2.1 dX1_addField_10 rfl (lv_at hl 0 rfl) ?_
    refine r_getR C hm flX1_9 dX1_addField_11 hh (fun x2 _ hh => ?_)
    refine r_aload_n C.1 C.2.1 dX1_addField_14 rfl (lv_at hl 0 rfl) ?_
    refine r_getI C hm flX1_33 dX1_addField_15 hh (fun x3 _ hh => ?_)
    refine lv_lload_n C.1 C.2.1 dX1_addField_18 rfl (lv_at hl 1 rfl) ?_
    refine r_last C hm hs dX1_addField_19 hh (fun h4 H locs _ hh hm hs => ?_)
    refine r_aload_n C.1 C.2.1 dX1_addField_20 rfl (lv_at hl 0 rfl) ?_
    refine r_getR C hm flX1_15 dX1_addField_21 hh (fun x5 _ hh => ?_)
    refine r_aload_n C.1 C.2.1 dX1_addField_24 rfl (lv_at hl 0 rfl) ?_
    refine r_getI C hm flX1_33 dX1_addField_25 hh (fun x6 _ hh => ?_)
    refine lv_iload_n C.1 C.2.1 dX1_addField_28 rfl (lv_at hl 2 rfl) ?_
    refine r_ast C hm hs dX1_addField_29 hh (fun h7 H locs _ hh hm hs => ?_)
    refine r_aload_n C.1 C.2.1 dX1_addField_30 rfl (lv_at hl 0 rfl) ?_
    refine r_getR C hm flX1_19 dX1_addField_31 hh (fun x8 _ hh => ?_)
    refine r_aload_n C.1 C.2.1 dX1_addField_34 rfl (lv_at hl 0 rfl) ?_
    refine r_getI C hm flX1_33 dX1_addField_35 hh (fun x9 _ hh => ?_)
    refine lv_iload C.1 C.2.1 dX1_addField_38 (lv_at hl 3 rfl) ?_
    refine r_ast C hm hs dX1_addField_40 hh (fun h10 H locs _ hh hm hs => ?_)
    refine r_aload_n C.1 C.2.1 dX1_addField_41 rfl (lv_at hl 0 rfl) ?_
    refine lv_dup C.1 C.2.1 dX1_addField_42 (va_cat _) ?_
    refine r_getI C hm flX1_28 dX1_addField_43 hh (fun x11 _ hh => ?_)
    refine lv_iload_n C.1 C.2.1 dX1_addField_46 rfl (lv_at hl 2 rfl) ?_
    refine lv_iconst (v := 1) C.1 C.2.1 dX1_addField_47 (by decide) ?_
    refine lv_iadd C.1 C.2.1 dX1_addField_48 ?_
    refine lv_imul C.1 C.2.1 dX1_addField_49 ?_
    refine r_putI C hm hs flX1_28 (Or.inl fm_2_6) dX1_addField_50 hh (fun h12 H locs _ hh hm hs => ?_)
    refine r_aload_n C.1 C.2.1 dX1_addField_53 rfl (lv_at hl 0 rfl) ?_
    refine lv_dup C.1 C.2.1 dX1_addField_54 (va_cat _) ?_
    refine r_getI C hm flX1_33 dX1_addField_55 hh (fun x13 _ hh => ?_)
    refine lv_iconst (v := 1) C.1 C.2.1 dX1_addField_58 (by decide) ?_
    refine lv_iadd C.1 C.2.1 dX1_addField_59 ?_
    refine r_putI C hm hs flX1_33 (Or.inl fm_2_4) dX1_addField_60 hh (fun h14 H locs _ hh hm hs => ?_)
    exact r_vretW hQ C hr hm hs hh dX1_addField_63
  · rw [if_neg c15] at hh
    exact r_vretW hQ C hr hm hs hh dX1_addField_9
def mX1_fieldNamed_l2 (h : MHp) : Nat → Nat → Int64 → Int32 → Option (Int32)
  | 0, _, _, _ => none
  | n + 1, a0, v1, v3 => (gI 2 4 h (some a0)).bind fun x1 => (if x1 ≤ v3 then some (-1) else (if 6 ≤ v3 then some (-1) else (gR 2 0 h (some a0)).bind fun x2 => (gAL 21 h x2 v3).bind fun x3 => (if (lg_cmp x3 v1) = 0 then some v3 else mX1_fieldNamed_l2 h n a0 v1 (v3 + 1))))
def mX1_fieldNamed (h : MHp) (a0 : Nat) (a1 : Int64) : Option (Int32) := mX1_fieldNamed_l2 h FUEL a0 a1 0
set_option maxRecDepth 100000 in
set_option maxHeartbeats 4000000 in
theorem c_X1_fieldNamed (l : Launch) (G : Env0) (h : MHp) (a0 : Nat) (a1 : Int64) (res : Int32) (hh : mX1_fieldNamed h a0 a1 = some res) : MG l yX1_fieldNamed cX1_fieldNamed 4 (some .int) 0 0 0 0 G h [.ref a0, .long a1] (some (.int res)) (h) := by
  refine MG_of (own := RX1) (plainFor_of_name (by decide)) rfl (Nat.le_of_ble_eq_true rfl) ?_
  intro p e s m args below meth c Q ls hQ C X hin hm hs hl hr
  have hl : lv_has ls 4 [(0, va_rf (some a0)), (1, .long a1)] := hl
  have B2 : ∀ n : Nat, ∀ (H : Heap) (locs : List Loc) (ls : Array Slot) (a0 : Nat) (v1 : Int64) (v3 : Int32) , mHp (gD G) (gC G) (gB G) h H → va_S (fun q => gB G ≤ q) s.heap H locs → lv_has ls 4 [(0, va_rf (some a0)), (1, .long v1), (3, .int v3)] → mX1_fieldNamed_l2 h n a0 v1 v3 = some res → W p l e ({ frames := 0, cells := 0, slots := 0, locals := 0 }) s m args below meth c H locs 0 0 Q (F0 m 2 ls []) := by
    intro n
    induction n with
    | zero => intro H locs ls a0 v1 v3 hm hs hl hh; cases hh
    | succ n ih =>
      intro H locs ls a0 v1 v3 hm hs hl hh
      unfold mX1_fieldNamed_l2 at hh
      refine lv_iload_n C.1 C.2.1 dX1_fieldNamed_2 rfl (lv_at hl 2 rfl) ?_
      refine r_aload_n C.1 C.2.1 dX1_fieldNamed_3 rfl (lv_at hl 0 rfl) ?_
      refine r_getI C hm flX1_33 dX1_fieldNamed_4 hh (fun x1 _ hh => ?_)
      refine lv_icmp_ge (tgt := 35) C.1 C.2.1 dX1_fieldNamed_7 (by decide) (fun c6 => ?_) (fun c6 => ?_)
      · rw [if_pos c6] at hh
        refine lv_iconst (v := (-1)) C.1 C.2.1 dX1_fieldNamed_35 (by decide) ?_
        exact r_iretP hQ C hr hm hs hh dX1_fieldNamed_36
      · rw [if_neg c6] at hh
        refine lv_iload_n C.1 C.2.1 dX1_fieldNamed_10 rfl (lv_at hl 2 rfl) ?_
        refine lv_bipush (v := 6) C.1 C.2.1 dX1_fieldNamed_11 (by decide) ?_
        refine lv_icmp_ge (tgt := 35) C.1 C.2.1 dX1_fieldNamed_13 (by decide) (fun c5 => ?_) (fun c5 => ?_)
        · rw [if_pos c5] at hh
          refine lv_iconst (v := (-1)) C.1 C.2.1 dX1_fieldNamed_35 (by decide) ?_
          exact r_iretP hQ C hr hm hs hh dX1_fieldNamed_36
        · rw [if_neg c5] at hh
          refine r_aload_n C.1 C.2.1 dX1_fieldNamed_16 rfl (lv_at hl 0 rfl) ?_
          refine r_getR C hm flX1_9 dX1_fieldNamed_17 hh (fun x2 _ hh => ?_)
          refine lv_iload_n C.1 C.2.1 dX1_fieldNamed_20 rfl (lv_at hl 2 rfl) ?_
          refine r_lald C hm dX1_fieldNamed_21 hh (fun x3 _ hh => ?_)
          refine lv_lload_n C.1 C.2.1 dX1_fieldNamed_22 rfl (lv_at hl 1 rfl) ?_
          refine W.lcmp C.1 C.2.1 dX1_fieldNamed_23 ?_
          refine lv_if_ne (tgt := 29) C.1 C.2.1 dX1_fieldNamed_24 (by decide) (fun c4 => ?_) (fun c4 => ?_)
          · rw [if_neg c4] at hh
            refine lv_iinc (v := (v3 + 1)) (lv' := [(3, .int (v3 + 1)), (0, va_rf (some a0)), (1, .long v1)]) C.1 C.2.1 dX1_fieldNamed_29 hl (k := 2) rfl rfl (by decide) rfl (fun ls hl => ?_)
            refine lv_goto (tgt := 2) C.1 C.2.1 dX1_fieldNamed_32 (by decide) ?_
            exact ih _ _ _ _ _ _  hm hs (lv_sub hl [1, 2, 0] rfl) hh
          · rw [if_pos c4] at hh
            refine lv_iload_n C.1 C.2.1 dX1_fieldNamed_27 rfl (lv_at hl 2 rfl) ?_
            exact r_iretP hQ C hr hm hs hh dX1_fieldNamed_28
  unfold mX1_fieldNamed at hh
  refine lv_iconst (v := 0) C.1 C.2.1 dX1_fieldNamed_0 (by decide) ?_
  refine lv_istore_n (i := 3) (lv' := [(3, .int 0), (0, va_rf (some a0)), (1, .long a1)]) C.1 C.2.1 dX1_fieldNamed_1 rfl hl (by decide) rfl (fun ls hl => ?_)
  exact B2 FUEL _ _ _ _ _ _  hm hs (lv_sub hl [1, 2, 0] rfl) hh
def mX1_hasField (h : MHp) (a0 : Nat) (a1 : Int32) : Option (Int32) := (if a1 < 0 then some 0 else (gI 2 4 h (some a0)).bind fun x1 => (if x1 ≤ a1 then some 0 else (if 6 ≤ a1 then some 0 else some 1)))
set_option maxRecDepth 100000 in
set_option maxHeartbeats 4000000 in
theorem c_X1_hasField (l : Launch) (G : Env0) (h : MHp) (a0 : Nat) (a1 : Int32) (res : Int32) (hh : mX1_hasField h a0 a1 = some res) : MG l yX1_hasField cX1_hasField 2 (some .boolean) 0 0 0 0 G h [.ref a0, .int a1] (some (.int res)) (h) := by
  refine MG_of (own := RX1) (plainFor_of_name (by decide)) rfl (Nat.le_of_ble_eq_true rfl) ?_
  intro p e s m args below meth c Q ls hQ C X hin hm hs hl hr
  have hl : lv_has ls 2 [(0, va_rf (some a0)), (1, .int a1)] := hl
  unfold mX1_hasField at hh
  refine lv_iload_n C.1 C.2.1 dX1_hasField_0 rfl (lv_at hl 1 rfl) ?_
  refine lv_if_lt (tgt := 22) C.1 C.2.1 dX1_hasField_1 (by decide) (fun c4 => ?_) (fun c4 => ?_)
  · rw [if_pos c4] at hh
    refine lv_iconst (v := 0) C.1 C.2.1 dX1_hasField_22 (by decide) ?_
    exact r_bretP hQ C hr hm hs (by decide) hh dX1_hasField_23
  · rw [if_neg c4] at hh
    refine lv_iload_n C.1 C.2.1 dX1_hasField_4 rfl (lv_at hl 1 rfl) ?_
    refine r_aload_n C.1 C.2.1 dX1_hasField_5 rfl (lv_at hl 0 rfl) ?_
    refine r_getI C hm flX1_33 dX1_hasField_6 hh (fun x1 _ hh => ?_)
    refine lv_icmp_ge (tgt := 22) C.1 C.2.1 dX1_hasField_9 (by decide) (fun c3 => ?_) (fun c3 => ?_)
    · rw [if_pos c3] at hh
      refine lv_iconst (v := 0) C.1 C.2.1 dX1_hasField_22 (by decide) ?_
      exact r_bretP hQ C hr hm hs (by decide) hh dX1_hasField_23
    · rw [if_neg c3] at hh
      refine lv_iload_n C.1 C.2.1 dX1_hasField_12 rfl (lv_at hl 1 rfl) ?_
      refine lv_bipush (v := 6) C.1 C.2.1 dX1_hasField_13 (by decide) ?_
      refine lv_icmp_ge (tgt := 22) C.1 C.2.1 dX1_hasField_15 (by decide) (fun c2 => ?_) (fun c2 => ?_)
      · rw [if_pos c2] at hh
        refine lv_iconst (v := 0) C.1 C.2.1 dX1_hasField_22 (by decide) ?_
        exact r_bretP hQ C hr hm hs (by decide) hh dX1_hasField_23
      · rw [if_neg c2] at hh
        refine lv_iconst (v := 1) C.1 C.2.1 dX1_hasField_18 (by decide) ?_
        refine lv_goto (tgt := 23) C.1 C.2.1 dX1_hasField_19 (by decide) ?_
        exact r_bretP hQ C hr hm hs (by decide) hh dX1_hasField_23
def mX1_topOf (h : MHp) (a0 : Nat) (a1 : Int32) : Option (Int32) := (rcv 2 h (some a0)).bind fun b2 => (mX1_hasField h b2 a1).bind fun r1 => (if r1 = 0 then some (-1) else (gR 2 1 h (some a0)).bind fun x3 => (gAI 20 h x3 a1).bind fun x4 => some x4)
set_option maxRecDepth 100000 in
set_option maxHeartbeats 4000000 in
theorem c_X1_topOf (l : Launch) (G : Env0) (h : MHp) (a0 : Nat) (a1 : Int32) (res : Int32) (hh : mX1_topOf h a0 a1 = some res) : MG l yX1_topOf cX1_topOf 2 (some .int) 1 21 0 0 G h [.ref a0, .int a1] (some (.int res)) (h) := by
  refine MG_of (own := RX1) (plainFor_of_name (by decide)) rfl (Nat.le_of_ble_eq_true rfl) ?_
  intro p e s m args below meth c Q ls hQ C X hin hm hs hl hr
  have hl : lv_has ls 2 [(0, va_rf (some a0)), (1, .int a1)] := hl
  unfold mX1_topOf at hh
  refine r_aload_n C.1 C.2.1 dX1_topOf_0 rfl (lv_at hl 0 rfl) ?_
  refine lv_iload_n C.1 C.2.1 dX1_topOf_1 rfl (lv_at hl 1 rfl) ?_
  refine r_cV C X hm hs mlX1_39 mvX1_39 hh (vv := fun r => some (.int r)) (hp := fun r => h) (fun b r hg => c_X1_hasField l G h b _ r hg) rfl rfl (Nat.le_of_ble_eq_true rfl) (Nat.le_of_ble_eq_true rfl) (Nat.le_of_ble_eq_true rfl) hl.1 dX1_topOf_2 (fun b2 r1 H locs hgr1 hh hm hs => ?_)
  refine W.eq (g2 := F0 m 5 ls [.int r1]) rfl ?_
  refine lv_if_eq (tgt := 17) C.1 C.2.1 dX1_topOf_5 (by decide) (fun c5 => ?_) (fun c5 => ?_)
  · rw [if_pos c5] at hh
    refine lv_iconst (v := (-1)) C.1 C.2.1 dX1_topOf_17 (by decide) ?_
    exact r_iretP hQ C hr hm hs hh dX1_topOf_18
  · rw [if_neg c5] at hh
    refine r_aload_n C.1 C.2.1 dX1_topOf_8 rfl (lv_at hl 0 rfl) ?_
    refine r_getR C hm flX1_15 dX1_topOf_9 hh (fun x3 _ hh => ?_)
    refine lv_iload_n C.1 C.2.1 dX1_topOf_12 rfl (lv_at hl 1 rfl) ?_
    refine r_ald C hm dX1_topOf_13 hh (fun x4 _ hh => ?_)
    refine lv_goto (tgt := 18) C.1 C.2.1 dX1_topOf_14 (by decide) ?_
    exact r_iretP hQ C hr hm hs hh dX1_topOf_18
def mX1_hasValue (h : MHp) (a0 : Nat) (a1 : Int32) (a2 : Int32) : Option (Int32) := (if a2 < 0 then some 0 else (rcv 2 h (some a0)).bind fun b2 => (mX1_topOf h b2 a1).bind fun r1 => (if r1 < a2 then some 0 else some 1))
set_option maxRecDepth 100000 in
set_option maxHeartbeats 4000000 in
theorem c_X1_hasValue (l : Launch) (G : Env0) (h : MHp) (a0 : Nat) (a1 : Int32) (a2 : Int32) (res : Int32) (hh : mX1_hasValue h a0 a1 a2 = some res) : MG l yX1_hasValue cX1_hasValue 3 (some .boolean) 2 42 0 0 G h [.ref a0, .int a1, .int a2] (some (.int res)) (h) := by
  refine MG_of (own := RX1) (plainFor_of_name (by decide)) rfl (Nat.le_of_ble_eq_true rfl) ?_
  intro p e s m args below meth c Q ls hQ C X hin hm hs hl hr
  have hl : lv_has ls 3 [(0, va_rf (some a0)), (1, .int a1), (2, .int a2)] := hl
  unfold mX1_hasValue at hh
  refine lv_iload_n C.1 C.2.1 dX1_hasValue_0 rfl (lv_at hl 2 rfl) ?_
  refine lv_if_lt (tgt := 17) C.1 C.2.1 dX1_hasValue_1 (by decide) (fun c4 => ?_) (fun c4 => ?_)
  · rw [if_pos c4] at hh
    refine lv_iconst (v := 0) C.1 C.2.1 dX1_hasValue_17 (by decide) ?_
    exact r_bretP hQ C hr hm hs (by decide) hh dX1_hasValue_18
  · rw [if_neg c4] at hh
    refine lv_iload_n C.1 C.2.1 dX1_hasValue_4 rfl (lv_at hl 2 rfl) ?_
    refine r_aload_n C.1 C.2.1 dX1_hasValue_5 rfl (lv_at hl 0 rfl) ?_
    refine lv_iload_n C.1 C.2.1 dX1_hasValue_6 rfl (lv_at hl 1 rfl) ?_
    refine r_cV C X hm hs mlX1_43 mvX1_43 hh (vv := fun r => some (.int r)) (hp := fun r => h) (fun b r hg => c_X1_topOf l G h b _ r hg) rfl rfl (Nat.le_of_ble_eq_true rfl) (Nat.le_of_ble_eq_true rfl) (Nat.le_of_ble_eq_true rfl) hl.1 dX1_hasValue_7 (fun b2 r1 H locs hgr1 hh hm hs => ?_)
    refine W.eq (g2 := F0 m 10 ls [.int r1, .int a2]) rfl ?_
    refine lv_icmp_gt (tgt := 17) C.1 C.2.1 dX1_hasValue_10 (by decide) (fun c3 => ?_) (fun c3 => ?_)
    · rw [if_pos c3] at hh
      refine lv_iconst (v := 0) C.1 C.2.1 dX1_hasValue_17 (by decide) ?_
      exact r_bretP hQ C hr hm hs (by decide) hh dX1_hasValue_18
    · rw [if_neg c3] at hh
      refine lv_iconst (v := 1) C.1 C.2.1 dX1_hasValue_13 (by decide) ?_
      refine lv_goto (tgt := 18) C.1 C.2.1 dX1_hasValue_14 (by decide) ?_
      exact r_bretP hQ C hr hm hs (by decide) hh dX1_hasValue_18
def mX1_allows_b36 (k2 : Nat → Option Nat → Int32 → Option (Int32)) (h : MHp) (a0 : Nat) (v1 : Option Nat) (v2 : Int32) : Option (Int32) := k2 a0 v1 (v2 + 1)
def mX1_allows_l2 (h : MHp) : Nat → Nat → Option Nat → Int32 → Option (Int32)
  | 0, _, _, _ => none
  | n + 1, a0, v1, v2 => (gI 2 4 h (some a0)).bind fun x1 => (if x1 ≤ v2 then some 1 else (gN 20 h v1).bind fun x2 => (if x2 ≤ v2 then some 1 else (gAI 20 h v1 v2).bind fun x3 => (if x3 = (-1) then mX1_allows_b36 (mX1_allows_l2 h n) h a0 v1 v2 else (gAI 20 h v1 v2).bind fun x4 => (rcv 2 h (some a0)).bind fun b6 => (mX1_hasValue h b6 v2 x4).bind fun r5 => (if r5 = 0 then some 0 else mX1_allows_b36 (mX1_allows_l2 h n) h a0 v1 v2))))
def mX1_allows (h : MHp) (a0 : Nat) (a1 : Option Nat) : Option (Int32) := mX1_allows_l2 h FUEL a0 a1 0
set_option maxRecDepth 100000 in
set_option maxHeartbeats 4000000 in
theorem c_X1_allows (l : Launch) (G : Env0) (h : MHp) (a0 : Nat) (a1 : Option Nat) (res : Int32) (hh : mX1_allows h a0 a1 = some res) : MG l yX1_allows cX1_allows 3 (some .boolean) 3 64 0 0 G h [.ref a0, va_rf a1] (some (.int res)) (h) := by
  refine MG_of (own := RX1) (plainFor_of_name (by decide)) rfl (by simp [lg_sl, va_cat, vc_i, vc_l, vc_r]) ?_
  intro p e s m args below meth c Q ls hQ C X hin hm hs hl hr
  have hl : lv_has ls 3 [(0, .ref a0), (1, va_rf a1)] := by simpa [lv_args, va_cat, vc_i, vc_l, vc_r] using hl
  have hl : lv_has ls 3 [(0, va_rf (some a0)), (1, va_rf a1)] := hl
  have B36 : ∀ (k2 : Nat → Option Nat → Int32 → Option (Int32)), (∀ (H : Heap) (locs : List Loc) (ls : Array Slot) (a0 : Nat) (v1 : Option Nat) (v2 : Int32) , mHp (gD G) (gC G) (gB G) h H → va_S (fun q => gB G ≤ q) s.heap H locs → lv_has ls 3 [(0, va_rf (some a0)), (1, va_rf v1), (2, .int v2)] → k2 a0 v1 v2 = some res → W p l e ({ frames := 3, cells := 0, slots := 0, locals := 64 }) s m args below meth c H locs 0 0 Q (F0 m 2 ls [])) → ∀ (H : Heap) (locs : List Loc) (ls : Array Slot) (a0 : Nat) (v1 : Option Nat) (v2 : Int32) , mHp (gD G) (gC G) (gB G) h H → va_S (fun q => gB G ≤ q) s.heap H locs → lv_has ls 3 [(0, va_rf (some a0)), (1, va_rf v1), (2, .int v2)] → mX1_allows_b36 k2 h a0 v1 v2 = some res → W p l e ({ frames := 3, cells := 0, slots := 0, locals := 64 }) s m args below meth c H locs 0 0 Q (F0 m 36 ls []) := by
    intro k2 hk2 H locs ls a0 v1 v2 hm hs hl hh
    unfold mX1_allows_b36 at hh
    refine lv_iinc (v := (v2 + 1)) (lv' := [(2, .int (v2 + 1)), (0, va_rf (some a0)), (1, va_rf v1)]) C.1 C.2.1 dX1_allows_36 hl (k := 2) rfl rfl (by decide) (by simp [va_cat, vc_i, vc_l, vc_r]) (fun ls hl => ?_)
    refine lv_goto (tgt := 2) C.1 C.2.1 dX1_allows_39 (by decide) ?_
    exact hk2 _ _ _ _ _ _  hm hs (lv_sub hl [1, 2, 0] rfl) hh
  have B2 : ∀ n : Nat, ∀ (H : Heap) (locs : List Loc) (ls : Array Slot) (a0 : Nat) (v1 : Option Nat) (v2 : Int32) , mHp (gD G) (gC G) (gB G) h H → va_S (fun q => gB G ≤ q) s.heap H locs → lv_has ls 3 [(0, va_rf (some a0)), (1, va_rf v1), (2, .int v2)] → mX1_allows_l2 h n a0 v1 v2 = some res → W p l e ({ frames := 3, cells := 0, slots := 0, locals := 64 }) s m args below meth c H locs 0 0 Q (F0 m 2 ls []) := by
    intro n
    induction n with
    | zero => intro H locs ls a0 v1 v2 hm hs hl hh; cases hh
    | succ n ih =>
      intro H locs ls a0 v1 v2 hm hs hl hh
      unfold mX1_allows_l2 at hh
      refine lv_iload_n C.1 C.2.1 dX1_allows_2 rfl (lv_at hl 2 rfl) ?_
      refine r_aload_n C.1 C.2.1 dX1_allows_3 rfl (lv_at hl 0 rfl) ?_
      refine r_getI C hm flX1_33 dX1_allows_4 hh (fun x1 _ hh => ?_)
      refine lv_icmp_ge (tgt := 42) C.1 C.2.1 dX1_allows_7 (by decide) (fun c10 => ?_) (fun c10 => ?_)
      · rw [if_pos c10] at hh
        refine lv_iconst (v := 1) C.1 C.2.1 dX1_allows_42 (by decide) ?_
        exact r_bretP hQ C hr hm hs (by decide) hh dX1_allows_43
      · rw [if_neg c10] at hh
        refine lv_iload_n C.1 C.2.1 dX1_allows_10 rfl (lv_at hl 2 rfl) ?_
        refine r_aload_n C.1 C.2.1 dX1_allows_11 rfl (lv_at hl 1 rfl) ?_
        refine r_len C hm dX1_allows_12 (kd := 20) (by decide) hh (fun x2 _ hh => ?_)
        refine lv_icmp_ge (tgt := 42) C.1 C.2.1 dX1_allows_13 (by decide) (fun c9 => ?_) (fun c9 => ?_)
        · rw [if_pos c9] at hh
          refine lv_iconst (v := 1) C.1 C.2.1 dX1_allows_42 (by decide) ?_
          exact r_bretP hQ C hr hm hs (by decide) hh dX1_allows_43
        · rw [if_neg c9] at hh
          refine r_aload_n C.1 C.2.1 dX1_allows_16 rfl (lv_at hl 1 rfl) ?_
          refine lv_iload_n C.1 C.2.1 dX1_allows_17 rfl (lv_at hl 2 rfl) ?_
          refine r_ald C hm dX1_allows_18 hh (fun x3 _ hh => ?_)
          refine lv_iconst (v := (-1)) C.1 C.2.1 dX1_allows_19 (by decide) ?_
          refine lv_icmp_eq (tgt := 36) C.1 C.2.1 dX1_allows_20 (by decide) (fun c8 => ?_) (fun c8 => ?_)
          · rw [if_pos c8] at hh
            exact B36 _ ih _ _ _ _ _ _  hm hs (lv_sub hl [0, 1, 2] rfl) hh
          · rw [if_neg c8] at hh
            refine r_aload_n C.1 C.2.1 dX1_allows_23 rfl (lv_at hl 0 rfl) ?_
            refine lv_iload_n C.1 C.2.1 dX1_allows_24 rfl (lv_at hl 2 rfl) ?_
            refine r_aload_n C.1 C.2.1 dX1_allows_25 rfl (lv_at hl 1 rfl) ?_
            refine lv_iload_n C.1 C.2.1 dX1_allows_26 rfl (lv_at hl 2 rfl) ?_
            refine r_ald C hm dX1_allows_27 hh (fun x4 _ hh => ?_)
            refine r_cV C X hm hs mlX1_47 mvX1_47 hh (vv := fun r => some (.int r)) (hp := fun r => h) (fun b r hg => c_X1_hasValue l G h b _ _ r hg) rfl rfl (Nat.le_of_ble_eq_true rfl) (Nat.le_of_ble_eq_true rfl) (Nat.le_of_ble_eq_true rfl) hl.1 dX1_allows_28 (fun b6 r5 H locs hgr5 hh hm hs => ?_)
            refine W.eq (g2 := F0 m 31 ls [.int r5]) rfl ?_
            refine lv_if_ne (tgt := 36) C.1 C.2.1 dX1_allows_31 (by decide) (fun c7 => ?_) (fun c7 => ?_)
            · rw [if_neg c7] at hh
              exact B36 _ ih _ _ _ _ _ _  hm hs (lv_sub hl [0, 1, 2] rfl) hh
            · rw [if_pos c7] at hh
              refine lv_iconst (v := 0) C.1 C.2.1 dX1_allows_34 (by decide) ?_
              exact r_bretP hQ C hr hm hs (by decide) hh dX1_allows_35
  unfold mX1_allows at hh
  refine lv_iconst (v := 0) C.1 C.2.1 dX1_allows_0 (by decide) ?_
  refine lv_istore_n (i := 2) (lv' := [(2, .int 0), (0, va_rf (some a0)), (1, va_rf a1)]) C.1 C.2.1 dX1_allows_1 rfl hl (by decide) (by simp [va_cat, vc_i, vc_l, vc_r]) (fun ls hl => ?_)
  exact B2 FUEL _ _ _ _ _ _  hm hs (lv_sub hl [1, 2, 0] rfl) hh
def mX1_ruleThatHolds_l2 (h : MHp) : Nat → Nat → Option Nat → Int32 → Option (Int32)
  | 0, _, _, _ => none
  | n + 1, a0, v1, v2 => (gI 2 5 h (some a0)).bind fun x1 => (if x1 ≤ v2 then some (-2) else (if 12 ≤ v2 then some (-2) else (gR 2 3 h (some a0)).bind fun x2 => (gAR 25 h x2 v2).bind fun x3 => (rcv 11 h x3).bind fun b5 => (mX10_holds h b5 v1).bind fun r4 => (if r4 = 0 then mX1_ruleThatHolds_l2 h n a0 v1 (v2 + 1) else some v2)))
def mX1_ruleThatHolds (h : MHp) (a0 : Nat) (a1 : Option Nat) : Option (Int32) := mX1_ruleThatHolds_l2 h FUEL a0 a1 0
set_option maxRecDepth 100000 in
set_option maxHeartbeats 4000000 in
theorem c_X1_ruleThatHolds (l : Launch) (G : Env0) (h : MHp) (a0 : Nat) (a1 : Option Nat) (res : Int32) (hh : mX1_ruleThatHolds h a0 a1 = some res) : MG l yX1_ruleThatHolds cX1_ruleThatHolds 3 (some .int) 2 46 0 0 G h [.ref a0, va_rf a1] (some (.int res)) (h) := by
  refine MG_of (own := RX1) (plainFor_of_name (by decide)) rfl (by simp [lg_sl, va_cat, vc_i, vc_l, vc_r]) ?_
  intro p e s m args below meth c Q ls hQ C X hin hm hs hl hr
  have hl : lv_has ls 3 [(0, .ref a0), (1, va_rf a1)] := by simpa [lv_args, va_cat, vc_i, vc_l, vc_r] using hl
  have hl : lv_has ls 3 [(0, va_rf (some a0)), (1, va_rf a1)] := hl
  have B2 : ∀ n : Nat, ∀ (H : Heap) (locs : List Loc) (ls : Array Slot) (a0 : Nat) (v1 : Option Nat) (v2 : Int32) , mHp (gD G) (gC G) (gB G) h H → va_S (fun q => gB G ≤ q) s.heap H locs → lv_has ls 3 [(0, va_rf (some a0)), (1, va_rf v1), (2, .int v2)] → mX1_ruleThatHolds_l2 h n a0 v1 v2 = some res → W p l e ({ frames := 2, cells := 0, slots := 0, locals := 46 }) s m args below meth c H locs 0 0 Q (F0 m 2 ls []) := by
    intro n
    induction n with
    | zero => intro H locs ls a0 v1 v2 hm hs hl hh; cases hh
    | succ n ih =>
      intro H locs ls a0 v1 v2 hm hs hl hh
      unfold mX1_ruleThatHolds_l2 at hh
      refine lv_iload_n C.1 C.2.1 dX1_ruleThatHolds_2 rfl (lv_at hl 2 rfl) ?_
      refine r_aload_n C.1 C.2.1 dX1_ruleThatHolds_3 rfl (lv_at hl 0 rfl) ?_
      refine r_getI C hm flX1_36 dX1_ruleThatHolds_4 hh (fun x1 _ hh => ?_)
      refine lv_icmp_ge (tgt := 37) C.1 C.2.1 dX1_ruleThatHolds_7 (by decide) (fun c8 => ?_) (fun c8 => ?_)
      · rw [if_pos c8] at hh
        refine lv_bipush (v := (-2)) C.1 C.2.1 dX1_ruleThatHolds_37 (by decide) ?_
        exact r_iretP hQ C hr hm hs hh dX1_ruleThatHolds_39
      · rw [if_neg c8] at hh
        refine lv_iload_n C.1 C.2.1 dX1_ruleThatHolds_10 rfl (lv_at hl 2 rfl) ?_
        refine lv_bipush (v := 12) C.1 C.2.1 dX1_ruleThatHolds_11 (by decide) ?_
        refine lv_icmp_ge (tgt := 37) C.1 C.2.1 dX1_ruleThatHolds_13 (by decide) (fun c7 => ?_) (fun c7 => ?_)
        · rw [if_pos c7] at hh
          refine lv_bipush (v := (-2)) C.1 C.2.1 dX1_ruleThatHolds_37 (by decide) ?_
          exact r_iretP hQ C hr hm hs hh dX1_ruleThatHolds_39
        · rw [if_neg c7] at hh
          refine r_aload_n C.1 C.2.1 dX1_ruleThatHolds_16 rfl (lv_at hl 0 rfl) ?_
          refine r_getR C hm flX1_24 dX1_ruleThatHolds_17 hh (fun x2 _ hh => ?_)
          refine lv_iload_n C.1 C.2.1 dX1_ruleThatHolds_20 rfl (lv_at hl 2 rfl) ?_
          refine r_ald_q C hm dX1_ruleThatHolds_21 (kd := 25) (by decide) (t0 := 5) rfl hh (fun x3 _ hh => ?_)
          refine r_aload_n C.1 C.2.1 dX1_ruleThatHolds_22 rfl (lv_at hl 1 rfl) ?_
          refine r_cV C X hm hs mlX1_51 mvX1_51 hh (vv := fun r => some (.int r)) (hp := fun r => h) (fun b r hg => c_X10_holds l G h b _ r hg) rfl rfl (Nat.le_of_ble_eq_true rfl) (Nat.le_of_ble_eq_true rfl) (Nat.le_of_ble_eq_true rfl) hl.1 dX1_ruleThatHolds_23 (fun b5 r4 H locs hgr4 hh hm hs => ?_)
          refine W.eq (g2 := F0 m 26 ls [.int r4]) rfl ?_
          refine lv_if_eq (tgt := 31) C.1 C.2.1 dX1_ruleThatHolds_26 (by decide) (fun c6 => ?_) (fun c6 => ?_)
          · rw [if_pos c6] at hh
            refine lv_iinc (v := (v2 + 1)) (lv' := [(2, .int (v2 + 1)), (0, va_rf (some a0)), (1, va_rf v1)]) C.1 C.2.1 dX1_ruleThatHolds_31 hl (k := 2) rfl rfl (by decide) (by simp [va_cat, vc_i, vc_l, vc_r]) (fun ls hl => ?_)
            refine lv_goto (tgt := 2) C.1 C.2.1 dX1_ruleThatHolds_34 (by decide) ?_
            exact ih _ _ _ _ _ _  hm hs (lv_sub hl [1, 2, 0] rfl) hh
          · rw [if_neg c6] at hh
            refine lv_iload_n C.1 C.2.1 dX1_ruleThatHolds_29 rfl (lv_at hl 2 rfl) ?_
            exact r_iretP hQ C hr hm hs hh dX1_ruleThatHolds_30
  unfold mX1_ruleThatHolds at hh
  refine lv_iconst (v := 0) C.1 C.2.1 dX1_ruleThatHolds_0 (by decide) ?_
  refine lv_istore_n (i := 2) (lv' := [(2, .int 0), (0, va_rf (some a0)), (1, va_rf a1)]) C.1 C.2.1 dX1_ruleThatHolds_1 rfl hl (by decide) (by simp [va_cat, vc_i, vc_l, vc_r]) (fun ls hl => ?_)
  exact B2 FUEL _ _ _ _ _ _  hm hs (lv_sub hl [1, 2, 0] rfl) hh
def mX1_allFields (h : MHp) (a0 : Nat) : Option (Int32) := (gI 2 4 h (some a0)).bind fun x1 => some ((1 <<< (x1 &&& 31)) - 1)
set_option maxRecDepth 100000 in
set_option maxHeartbeats 4000000 in
theorem c_X1_allFields (l : Launch) (G : Env0) (h : MHp) (a0 : Nat) (res : Int32) (hh : mX1_allFields h a0 = some res) : MG l yX1_allFields cX1_allFields 1 (some .int) 0 0 0 0 G h [.ref a0] (some (.int res)) (h) := by
  refine MG_of (own := RX1) (plainFor_of_name (by decide)) rfl (Nat.le_of_ble_eq_true rfl) ?_
  intro p e s m args below meth c Q ls hQ C X hin hm hs hl hr
  have hl : lv_has ls 1 [(0, va_rf (some a0))] := hl
  unfold mX1_allFields at hh
  refine lv_iconst (v := 1) C.1 C.2.1 dX1_allFields_0 (by decide) ?_
  refine r_aload_n C.1 C.2.1 dX1_allFields_1 rfl (lv_at hl 0 rfl) ?_
  refine r_getI C hm flX1_33 dX1_allFields_2 hh (fun x1 _ hh => ?_)
  refine lv_ishl C.1 C.2.1 dX1_allFields_5 ?_
  refine lv_iconst (v := 1) C.1 C.2.1 dX1_allFields_6 (by decide) ?_
  refine lv_isub C.1 C.2.1 dX1_allFields_7 ?_
  exact r_iretP hQ C hr hm hs hh dX1_allFields_8
def mX1_gapsOf_b31 (k4 : Nat → Option Nat → Int32 → Int32 → Option (Int32)) (h : MHp) (a0 : Nat) (v1 : Option Nat) (v2 : Int32) (v3 : Int32) : Option (Int32) := k4 a0 v1 v2 (v3 + 1)
def mX1_gapsOf_l4 (h : MHp) : Nat → Nat → Option Nat → Int32 → Int32 → Option (Int32)
  | 0, _, _, _, _ => none
  | n + 1, a0, v1, v2, v3 => (gI 2 4 h (some a0)).bind fun x1 => (if x1 ≤ v3 then some v2 else (gN 20 h v1).bind fun x2 => (if x2 ≤ v3 then some v2 else (gAI 20 h v1 v3).bind fun x3 => (if x3 = (-1) then mX1_gapsOf_b31 (mX1_gapsOf_l4 h n) h a0 v1 (v2 ||| (1 <<< (v3 &&& 31))) v3 else mX1_gapsOf_b31 (mX1_gapsOf_l4 h n) h a0 v1 v2 v3)))
def mX1_gapsOf (h : MHp) (a0 : Nat) (a1 : Option Nat) : Option (Int32) := mX1_gapsOf_l4 h FUEL a0 a1 0 0
set_option maxRecDepth 100000 in
set_option maxHeartbeats 4000000 in
theorem c_X1_gapsOf (l : Launch) (G : Env0) (h : MHp) (a0 : Nat) (a1 : Option Nat) (res : Int32) (hh : mX1_gapsOf h a0 a1 = some res) : MG l yX1_gapsOf cX1_gapsOf 4 (some .int) 0 0 0 0 G h [.ref a0, va_rf a1] (some (.int res)) (h) := by
  refine MG_of (own := RX1) (plainFor_of_name (by decide)) rfl (by simp [lg_sl, va_cat, vc_i, vc_l, vc_r]) ?_
  intro p e s m args below meth c Q ls hQ C X hin hm hs hl hr
  have hl : lv_has ls 4 [(0, .ref a0), (1, va_rf a1)] := by simpa [lv_args, va_cat, vc_i, vc_l, vc_r] using hl
  have hl : lv_has ls 4 [(0, va_rf (some a0)), (1, va_rf a1)] := hl
  have B31 : ∀ (k4 : Nat → Option Nat → Int32 → Int32 → Option (Int32)), (∀ (H : Heap) (locs : List Loc) (ls : Array Slot) (a0 : Nat) (v1 : Option Nat) (v2 : Int32) (v3 : Int32) , mHp (gD G) (gC G) (gB G) h H → va_S (fun q => gB G ≤ q) s.heap H locs → lv_has ls 4 [(0, va_rf (some a0)), (1, va_rf v1), (2, .int v2), (3, .int v3)] → k4 a0 v1 v2 v3 = some res → W p l e ({ frames := 0, cells := 0, slots := 0, locals := 0 }) s m args below meth c H locs 0 0 Q (F0 m 4 ls [])) → ∀ (H : Heap) (locs : List Loc) (ls : Array Slot) (a0 : Nat) (v1 : Option Nat) (v2 : Int32) (v3 : Int32) , mHp (gD G) (gC G) (gB G) h H → va_S (fun q => gB G ≤ q) s.heap H locs → lv_has ls 4 [(0, va_rf (some a0)), (1, va_rf v1), (2, .int v2), (3, .int v3)] → mX1_gapsOf_b31 k4 h a0 v1 v2 v3 = some res → W p l e ({ frames := 0, cells := 0, slots := 0, locals := 0 }) s m args below meth c H locs 0 0 Q (F0 m 31 ls []) := by
    intro k4 hk4 H locs ls a0 v1 v2 v3 hm hs hl hh
    unfold mX1_gapsOf_b31 at hh
    refine lv_iinc (v := (v3 + 1)) (lv' := [(3, .int (v3 + 1)), (0, va_rf (some a0)), (1, va_rf v1), (2, .int v2)]) C.1 C.2.1 dX1_gapsOf_31 hl (k := 3) rfl rfl (by decide) rfl (fun ls hl => ?_)
    refine lv_goto (tgt := 4) C.1 C.2.1 dX1_gapsOf_34 (by decide) ?_
    exact hk4 _ _ _ _ _ _ _  hm hs (lv_sub hl [1, 2, 3, 0] rfl) hh
  have B4 : ∀ n : Nat, ∀ (H : Heap) (locs : List Loc) (ls : Array Slot) (a0 : Nat) (v1 : Option Nat) (v2 : Int32) (v3 : Int32) , mHp (gD G) (gC G) (gB G) h H → va_S (fun q => gB G ≤ q) s.heap H locs → lv_has ls 4 [(0, va_rf (some a0)), (1, va_rf v1), (2, .int v2), (3, .int v3)] → mX1_gapsOf_l4 h n a0 v1 v2 v3 = some res → W p l e ({ frames := 0, cells := 0, slots := 0, locals := 0 }) s m args below meth c H locs 0 0 Q (F0 m 4 ls []) := by
    intro n
    induction n with
    | zero => intro H locs ls a0 v1 v2 v3 hm hs hl hh; cases hh
    | succ n ih =>
      intro H locs ls a0 v1 v2 v3 hm hs hl hh
      unfold mX1_gapsOf_l4 at hh
      refine lv_iload_n C.1 C.2.1 dX1_gapsOf_4 rfl (lv_at hl 3 rfl) ?_
      refine r_aload_n C.1 C.2.1 dX1_gapsOf_5 rfl (lv_at hl 0 rfl) ?_
      refine r_getI C hm flX1_33 dX1_gapsOf_6 hh (fun x1 _ hh => ?_)
      refine lv_icmp_ge (tgt := 37) C.1 C.2.1 dX1_gapsOf_9 (by decide) (fun c6 => ?_) (fun c6 => ?_)
      · rw [if_pos c6] at hh
        refine lv_iload_n C.1 C.2.1 dX1_gapsOf_37 rfl (lv_at hl 2 rfl) ?_
        exact r_iretP hQ C hr hm hs hh dX1_gapsOf_38
      · rw [if_neg c6] at hh
        refine lv_iload_n C.1 C.2.1 dX1_gapsOf_12 rfl (lv_at hl 3 rfl) ?_
        refine r_aload_n C.1 C.2.1 dX1_gapsOf_13 rfl (lv_at hl 1 rfl) ?_
        refine r_len C hm dX1_gapsOf_14 (kd := 20) (by decide) hh (fun x2 _ hh => ?_)
        refine lv_icmp_ge (tgt := 37) C.1 C.2.1 dX1_gapsOf_15 (by decide) (fun c5 => ?_) (fun c5 => ?_)
        · rw [if_pos c5] at hh
          refine lv_iload_n C.1 C.2.1 dX1_gapsOf_37 rfl (lv_at hl 2 rfl) ?_
          exact r_iretP hQ C hr hm hs hh dX1_gapsOf_38
        · rw [if_neg c5] at hh
          refine r_aload_n C.1 C.2.1 dX1_gapsOf_18 rfl (lv_at hl 1 rfl) ?_
          refine lv_iload_n C.1 C.2.1 dX1_gapsOf_19 rfl (lv_at hl 3 rfl) ?_
          refine r_ald C hm dX1_gapsOf_20 hh (fun x3 _ hh => ?_)
          refine lv_iconst (v := (-1)) C.1 C.2.1 dX1_gapsOf_21 (by decide) ?_
          refine lv_icmp_ne (tgt := 31) C.1 C.2.1 dX1_gapsOf_22 (by decide) (fun c4 => ?_) (fun c4 => ?_)
          · rw [if_neg c4] at hh
            exact B31 _ ih _ _ _ _ _ _ _  hm hs (lv_sub hl [0, 1, 2, 3] rfl) hh
          · rw [if_pos c4] at hh
            refine lv_iload_n C.1 C.2.1 dX1_gapsOf_25 rfl (lv_at hl 2 rfl) ?_
            refine lv_iconst (v := 1) C.1 C.2.1 dX1_gapsOf_26 (by decide) ?_
            refine lv_iload_n C.1 C.2.1 dX1_gapsOf_27 rfl (lv_at hl 3 rfl) ?_
            refine lv_ishl C.1 C.2.1 dX1_gapsOf_28 ?_
            refine lv_ior C.1 C.2.1 dX1_gapsOf_29 ?_
            refine lv_istore_n (i := 2) (lv' := [(2, .int (v2 ||| (1 <<< (v3 &&& 31)))), (0, va_rf (some a0)), (1, va_rf v1), (3, .int v3)]) C.1 C.2.1 dX1_gapsOf_30 rfl hl (by decide) (by simp [va_cat, vc_i, vc_l, vc_r]) (fun ls hl => ?_)
            exact B31 _ ih _ _ _ _ _ _ _  hm hs (lv_sub hl [1, 2, 0, 3] rfl) hh
  unfold mX1_gapsOf at hh
  refine lv_iconst (v := 0) C.1 C.2.1 dX1_gapsOf_0 (by decide) ?_
  refine lv_istore_n (i := 2) (lv' := [(2, .int 0), (0, va_rf (some a0)), (1, va_rf a1)]) C.1 C.2.1 dX1_gapsOf_1 rfl hl (by decide) (by simp [va_cat, vc_i, vc_l, vc_r]) (fun ls hl => ?_)
  refine lv_iconst (v := 0) C.1 C.2.1 dX1_gapsOf_2 (by decide) ?_
  refine lv_istore_n (i := 3) (lv' := [(3, .int 0), (2, .int 0), (0, va_rf (some a0)), (1, va_rf a1)]) C.1 C.2.1 dX1_gapsOf_3 rfl hl (by decide) rfl (fun ls hl => ?_)
  exact B4 FUEL _ _ _ _ _ _ _  hm hs (lv_sub hl [2, 3, 1, 0] rfl) hh
def mX1_costOf_b35 (k4 : Nat → Int32 → Int32 → Int32 → Option (Int32)) (h : MHp) (a0 : Nat) (v1 : Int32) (v2 : Int32) (v3 : Int32) : Option (Int32) := k4 a0 v1 v2 (v3 + 1)
def mX1_costOf_l4 (h : MHp) : Nat → Nat → Int32 → Int32 → Int32 → Option (Int32)
  | 0, _, _, _, _ => none
  | n + 1, a0, v1, v2, v3 => (gI 2 4 h (some a0)).bind fun x1 => (if x1 ≤ v3 then some v2 else (if 6 ≤ v3 then some v2 else (if ((v1 >>> (v3 &&& 31)) &&& 1) = 0 then mX1_costOf_b35 (mX1_costOf_l4 h n) h a0 v1 v2 v3 else (gR 2 2 h (some a0)).bind fun x2 => (gAI 20 h x2 v3).bind fun x3 => mX1_costOf_b35 (mX1_costOf_l4 h n) h a0 v1 (v2 + x3) v3)))
def mX1_costOf (h : MHp) (a0 : Nat) (a1 : Int32) : Option (Int32) := mX1_costOf_l4 h FUEL a0 a1 0 0
set_option maxRecDepth 100000 in
set_option maxHeartbeats 4000000 in
theorem c_X1_costOf (l : Launch) (G : Env0) (h : MHp) (a0 : Nat) (a1 : Int32) (res : Int32) (hh : mX1_costOf h a0 a1 = some res) : MG l yX1_costOf cX1_costOf 4 (some .int) 0 0 0 0 G h [.ref a0, .int a1] (some (.int res)) (h) := by
  refine MG_of (own := RX1) (plainFor_of_name (by decide)) rfl (Nat.le_of_ble_eq_true rfl) ?_
  intro p e s m args below meth c Q ls hQ C X hin hm hs hl hr
  have hl : lv_has ls 4 [(0, va_rf (some a0)), (1, .int a1)] := hl
  have B35 : ∀ (k4 : Nat → Int32 → Int32 → Int32 → Option (Int32)), (∀ (H : Heap) (locs : List Loc) (ls : Array Slot) (a0 : Nat) (v1 : Int32) (v2 : Int32) (v3 : Int32) , mHp (gD G) (gC G) (gB G) h H → va_S (fun q => gB G ≤ q) s.heap H locs → lv_has ls 4 [(0, va_rf (some a0)), (1, .int v1), (2, .int v2), (3, .int v3)] → k4 a0 v1 v2 v3 = some res → W p l e ({ frames := 0, cells := 0, slots := 0, locals := 0 }) s m args below meth c H locs 0 0 Q (F0 m 4 ls [])) → ∀ (H : Heap) (locs : List Loc) (ls : Array Slot) (a0 : Nat) (v1 : Int32) (v2 : Int32) (v3 : Int32) , mHp (gD G) (gC G) (gB G) h H → va_S (fun q => gB G ≤ q) s.heap H locs → lv_has ls 4 [(0, va_rf (some a0)), (1, .int v1), (2, .int v2), (3, .int v3)] → mX1_costOf_b35 k4 h a0 v1 v2 v3 = some res → W p l e ({ frames := 0, cells := 0, slots := 0, locals := 0 }) s m args below meth c H locs 0 0 Q (F0 m 35 ls []) := by
    intro k4 hk4 H locs ls a0 v1 v2 v3 hm hs hl hh
    unfold mX1_costOf_b35 at hh
    refine lv_iinc (v := (v3 + 1)) (lv' := [(3, .int (v3 + 1)), (0, va_rf (some a0)), (1, .int v1), (2, .int v2)]) C.1 C.2.1 dX1_costOf_35 hl (k := 3) rfl rfl (by decide) rfl (fun ls hl => ?_)
    refine lv_goto (tgt := 4) C.1 C.2.1 dX1_costOf_38 (by decide) ?_
    exact hk4 _ _ _ _ _ _ _  hm hs (lv_sub hl [1, 2, 3, 0] rfl) hh
  have B4 : ∀ n : Nat, ∀ (H : Heap) (locs : List Loc) (ls : Array Slot) (a0 : Nat) (v1 : Int32) (v2 : Int32) (v3 : Int32) , mHp (gD G) (gC G) (gB G) h H → va_S (fun q => gB G ≤ q) s.heap H locs → lv_has ls 4 [(0, va_rf (some a0)), (1, .int v1), (2, .int v2), (3, .int v3)] → mX1_costOf_l4 h n a0 v1 v2 v3 = some res → W p l e ({ frames := 0, cells := 0, slots := 0, locals := 0 }) s m args below meth c H locs 0 0 Q (F0 m 4 ls []) := by
    intro n
    induction n with
    | zero => intro H locs ls a0 v1 v2 v3 hm hs hl hh; cases hh
    | succ n ih =>
      intro H locs ls a0 v1 v2 v3 hm hs hl hh
      unfold mX1_costOf_l4 at hh
      refine lv_iload_n C.1 C.2.1 dX1_costOf_4 rfl (lv_at hl 3 rfl) ?_
      refine r_aload_n C.1 C.2.1 dX1_costOf_5 rfl (lv_at hl 0 rfl) ?_
      refine r_getI C hm flX1_33 dX1_costOf_6 hh (fun x1 _ hh => ?_)
      refine lv_icmp_ge (tgt := 41) C.1 C.2.1 dX1_costOf_9 (by decide) (fun c6 => ?_) (fun c6 => ?_)
      · rw [if_pos c6] at hh
        refine lv_iload_n C.1 C.2.1 dX1_costOf_41 rfl (lv_at hl 2 rfl) ?_
        exact r_iretP hQ C hr hm hs hh dX1_costOf_42
      · rw [if_neg c6] at hh
        refine lv_iload_n C.1 C.2.1 dX1_costOf_12 rfl (lv_at hl 3 rfl) ?_
        refine lv_bipush (v := 6) C.1 C.2.1 dX1_costOf_13 (by decide) ?_
        refine lv_icmp_ge (tgt := 41) C.1 C.2.1 dX1_costOf_15 (by decide) (fun c5 => ?_) (fun c5 => ?_)
        · rw [if_pos c5] at hh
          refine lv_iload_n C.1 C.2.1 dX1_costOf_41 rfl (lv_at hl 2 rfl) ?_
          exact r_iretP hQ C hr hm hs hh dX1_costOf_42
        · rw [if_neg c5] at hh
          refine lv_iload_n C.1 C.2.1 dX1_costOf_18 rfl (lv_at hl 1 rfl) ?_
          refine lv_iload_n C.1 C.2.1 dX1_costOf_19 rfl (lv_at hl 3 rfl) ?_
          refine lv_ishr C.1 C.2.1 dX1_costOf_20 ?_
          refine lv_iconst (v := 1) C.1 C.2.1 dX1_costOf_21 (by decide) ?_
          refine lv_iand C.1 C.2.1 dX1_costOf_22 ?_
          refine lv_if_eq (tgt := 35) C.1 C.2.1 dX1_costOf_23 (by decide) (fun c4 => ?_) (fun c4 => ?_)
          · rw [if_pos c4] at hh
            exact B35 _ ih _ _ _ _ _ _ _  hm hs (lv_sub hl [0, 1, 2, 3] rfl) hh
          · rw [if_neg c4] at hh
            refine lv_iload_n C.1 C.2.1 dX1_costOf_26 rfl (lv_at hl 2 rfl) ?_
            refine r_aload_n C.1 C.2.1 dX1_costOf_27 rfl (lv_at hl 0 rfl) ?_
            refine r_getR C hm flX1_19 dX1_costOf_28 hh (fun x2 _ hh => ?_)
            refine lv_iload_n C.1 C.2.1 dX1_costOf_31 rfl (lv_at hl 3 rfl) ?_
            refine r_ald C hm dX1_costOf_32 hh (fun x3 _ hh => ?_)
            refine lv_iadd C.1 C.2.1 dX1_costOf_33 ?_
            refine lv_istore_n (i := 2) (lv' := [(2, .int (v2 + x3)), (0, va_rf (some a0)), (1, .int v1), (3, .int v3)]) C.1 C.2.1 dX1_costOf_34 rfl hl (by decide) rfl (fun ls hl => ?_)
            exact B35 _ ih _ _ _ _ _ _ _  hm hs (lv_sub hl [1, 2, 0, 3] rfl) hh
  unfold mX1_costOf at hh
  refine lv_iconst (v := 0) C.1 C.2.1 dX1_costOf_0 (by decide) ?_
  refine lv_istore_n (i := 2) (lv' := [(2, .int 0), (0, va_rf (some a0)), (1, .int a1)]) C.1 C.2.1 dX1_costOf_1 rfl hl (by decide) rfl (fun ls hl => ?_)
  refine lv_iconst (v := 0) C.1 C.2.1 dX1_costOf_2 (by decide) ?_
  refine lv_istore_n (i := 3) (lv' := [(3, .int 0), (2, .int 0), (0, va_rf (some a0)), (1, .int a1)]) C.1 C.2.1 dX1_costOf_3 rfl hl (by decide) rfl (fun ls hl => ?_)
  exact B4 FUEL _ _ _ _ _ _ _  hm hs (lv_sub hl [2, 3, 1, 0] rfl) hh

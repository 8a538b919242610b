def mX5_init (h : MHp) (a0 : Nat) (a1 : Option Nat) : Option (MHp) := (pI 6 1 h (some a0) (-1)).bind fun h1 => (some (nA h1 20 6)).bind fun h2 => (pR 6 2 h2 (some a0) (some (hS h1))).bind fun h3 => (some (nA h3 20 6)).bind fun h4 => (pR 6 3 h4 (some a0) (some (hS h3))).bind fun h5 => (some (nA h5 20 6)).bind fun h6 => (pR 6 4 h6 (some a0) (some (hS h5))).bind fun h7 => (some (nA h7 20 6)).bind fun h8 => (pR 6 5 h8 (some a0) (some (hS h7))).bind fun h9 => (some (nA h9 20 12)).bind fun h10 => (pR 6 6 h10 (some a0) (some (hS h9))).bind fun h11 => (some (nA h11 20 60)).bind fun h12 => (pR 6 7 h12 (some a0) (some (hS h11))).bind fun h13 => (pR 6 0 h13 (some a0) a1).bind fun h14 => some h14
set_option maxRecDepth 100000 in
set_option maxHeartbeats 4000000 in
theorem c_X5_init (l : Launch) (G : Env0) (h : MHp) (a0 : Nat) (a1 : Option Nat) (res : MHp) (hh : mX5_init h a0 a1 = some res) : MG l yX5_init cX5_init 2 none 1 12 6 96 G h [.ref a0, va_rf a1] (none) (res) := by
  refine MG_of (own := RX5) (plainFor_of_name (by decide)) rfl (by simp [lg_sl, va_cat, vc_i, vc_l, vc_r]) ?_
  intro p e s m args below meth c Q ls hQ C X hin hm hs hl hr
  have hl : lv_has ls 2 [(0, .ref a0), (1, va_rf a1)] := by simpa [lv_args, va_cat, vc_i, vc_l, vc_r] using hl
  have hl : lv_has ls 2 [(0, va_rf (some a0)), (1, va_rf a1)] := hl
  unfold mX5_init at hh
  refine r_aload_n C.1 C.2.1 dX5_init_0 rfl (lv_at hl 0 rfl) ?_
  refine r_objInit C (in_tbl q_257 rfl) (in_tbl q_37 rfl) (in_tbl q_38 rfl) hl.1 dX5_init_1 (Nat.le_of_ble_eq_true rfl) (Nat.le_of_ble_eq_true rfl) ?_
  refine r_aload_n C.1 C.2.1 dX5_init_4 rfl (lv_at hl 0 rfl) ?_
  refine lv_iconst (v := (-1)) C.1 C.2.1 dX5_init_5 (by decide) ?_
  refine r_putI C hm hs flX5_9 (Or.inl fm_6_1) dX5_init_6 hh (fun h1 H locs _ hh hm hs => ?_)
  refine r_aload_n C.1 C.2.1 dX5_init_9 rfl (lv_at hl 0 rfl) ?_
  refine lv_bipush (v := 6) C.1 C.2.1 dX5_init_10 (by decide) ?_
  refine r_newaG C hm hs (kd := 20) (w := 4) (by decide) aw20 dX5_init_12 (N := 6) (by decide) (by decide) (by decide) hh (Nat.le_of_ble_eq_true rfl) (Nat.le_of_ble_eq_true rfl) (fun h2 H hh hm hs => ?_)
  refine r_putR C hm hs flX5_15 (Or.inr ⟨ffX5_15, hin rfl⟩) dX5_init_14 hh (fun h3 H locs _ hh hm hs => ?_)
  refine r_aload_n C.1 C.2.1 dX5_init_17 rfl (lv_at hl 0 rfl) ?_
  refine lv_bipush (v := 6) C.1 C.2.1 dX5_init_18 (by decide) ?_
  refine r_newaG C hm hs (kd := 20) (w := 4) (by decide) aw20 dX5_init_20 (N := 6) (by decide) (by decide) (by decide) hh (Nat.le_of_ble_eq_true rfl) (Nat.le_of_ble_eq_true rfl) (fun h4 H hh hm hs => ?_)
  refine r_putR C hm hs flX5_19 (Or.inr ⟨ffX5_19, hin rfl⟩) dX5_init_22 hh (fun h5 H locs _ hh hm hs => ?_)
  refine r_aload_n C.1 C.2.1 dX5_init_25 rfl (lv_at hl 0 rfl) ?_
  refine lv_bipush (v := 6) C.1 C.2.1 dX5_init_26 (by decide) ?_
  refine r_newaG C hm hs (kd := 20) (w := 4) (by decide) aw20 dX5_init_28 (N := 6) (by decide) (by decide) (by decide) hh (Nat.le_of_ble_eq_true rfl) (Nat.le_of_ble_eq_true rfl) (fun h6 H hh hm hs => ?_)
  refine r_putR C hm hs flX5_22 (Or.inr ⟨ffX5_22, hin rfl⟩) dX5_init_30 hh (fun h7 H locs _ hh hm hs => ?_)
  refine r_aload_n C.1 C.2.1 dX5_init_33 rfl (lv_at hl 0 rfl) ?_
  refine lv_bipush (v := 6) C.1 C.2.1 dX5_init_34 (by decide) ?_
  refine r_newaG C hm hs (kd := 20) (w := 4) (by decide) aw20 dX5_init_36 (N := 6) (by decide) (by decide) (by decide) hh (Nat.le_of_ble_eq_true rfl) (Nat.le_of_ble_eq_true rfl) (fun h8 H hh hm hs => ?_)
  refine r_putR C hm hs flX5_25 (Or.inr ⟨ffX5_25, hin rfl⟩) dX5_init_38 hh (fun h9 H locs _ hh hm hs => ?_)
  refine r_aload_n C.1 C.2.1 dX5_init_41 rfl (lv_at hl 0 rfl) ?_
  refine lv_bipush (v := 12) C.1 C.2.1 dX5_init_42 (by decide) ?_
  refine r_newaG C hm hs (kd := 20) (w := 4) (by decide) aw20 dX5_init_44 (N := 12) (by decide) (by decide) (by decide) hh (Nat.le_of_ble_eq_true rfl) (Nat.le_of_ble_eq_true rfl) (fun h10 H hh hm hs => ?_)
  refine r_putR C hm hs flX5_28 (Or.inr ⟨ffX5_28, hin rfl⟩) dX5_init_46 hh (fun h11 H locs _ hh hm hs => ?_)
  refine r_aload_n C.1 C.2.1 dX5_init_49 rfl (lv_at hl 0 rfl) ?_
  refine lv_bipush (v := 60) C.1 C.2.1 dX5_init_50 (by decide) ?_
  refine r_newaG C hm hs (kd := 20) (w := 4) (by decide) aw20 dX5_init_52 (N := 60) (by decide) (by decide) (by decide) hh (Nat.le_of_ble_eq_true rfl) (Nat.le_of_ble_eq_true rfl) (fun h12 H hh hm hs => ?_)
  refine r_putR C hm hs flX5_31 (Or.inr ⟨ffX5_31, hin rfl⟩) dX5_init_54 hh (fun h13 H locs _ hh hm hs => ?_)
  refine r_aload_n C.1 C.2.1 dX5_init_57 rfl (lv_at hl 0 rfl) ?_
  refine r_aload_n C.1 C.2.1 dX5_init_58 rfl (lv_at hl 1 rfl) ?_
  refine r_putR C hm hs flX5_34 (Or.inr ⟨ffX5_34, hin rfl⟩) dX5_init_59 hh (fun h14 H locs _ hh hm hs => ?_)
  refine W.widen (k := 6) (n := 96) (by omega) (by omega) ?_
  exact r_vretW hQ C hr hm hs hh dX5_init_62
def mX5_holdsRipe_b56 (k2 : Nat → Int32 → Int32 → Option (Int32)) (h : MHp) (a0 : Nat) (v1 : Int32) (v2 : Int32) : Option (Int32) := k2 a0 v1 (v2 + 1)
def mX5_holdsRipe_l2 (h : MHp) : Nat → Nat → Int32 → Int32 → Option (Int32)
  | 0, _, _, _ => none
  | n + 1, a0, v1, v2 => (gR 6 0 h (some a0)).bind fun x1 => (gR 10 5 h x1).bind fun x2 => (gI 2 5 h x2).bind fun x3 => (if x3 ≤ v2 then some 0 else (if 12 ≤ v2 then some 0 else (gR 6 6 h (some a0)).bind fun x4 => (gAI 20 h x4 v2).bind fun x5 => (if x5 = v1 then (gR 6 0 h (some a0)).bind fun x6 => (gR 10 5 h x6).bind fun x7 => (gR 2 3 h x7).bind fun x8 => (gAR 25 h x8 v2).bind fun x9 => (gR 6 4 h (some a0)).bind fun x10 => (rcv 11 h x9).bind fun b12 => (mX10_holds h b12 x10).bind fun r11 => (if r11 = 0 then mX5_holdsRipe_b56 (mX5_holdsRipe_l2 h n) h a0 v1 v2 else some 1) else mX5_holdsRipe_b56 (mX5_holdsRipe_l2 h n) h a0 v1 v2)))
def mX5_holdsRipe (h : MHp) (a0 : Nat) (a1 : Int32) : Option (Int32) := mX5_holdsRipe_l2 h FUEL a0 a1 0
set_option maxRecDepth 100000 in
set_option maxHeartbeats 4000000 in
theorem c_X5_holdsRipe (l : Launch) (G : Env0) (h : MHp) (a0 : Nat) (a1 : Int32) (res : Int32) (hh : mX5_holdsRipe h a0 a1 = some res) : MG l yX5_holdsRipe cX5_holdsRipe 3 (some .boolean) 2 46 0 0 G h [.ref a0, .int a1] (some (.int res)) (h) := by
  refine MG_of (own := RX5) (plainFor_of_name (by decide)) rfl (Nat.le_of_ble_eq_true rfl) ?_
  intro p e s m args below meth c Q ls hQ C X hin hm hs hl hr
  have hl : lv_has ls 3 [(0, va_rf (some a0)), (1, .int a1)] := hl
  have B56 : ∀ (k2 : Nat → Int32 → Int32 → Option (Int32)), (∀ (H : Heap) (locs : List Loc) (ls : Array Slot) (a0 : Nat) (v1 : Int32) (v2 : Int32) , mHp (gD G) (gC G) (gB G) h H → va_S (fun q => gB G ≤ q) s.heap H locs → lv_has ls 3 [(0, va_rf (some a0)), (1, .int v1), (2, .int v2)] → k2 a0 v1 v2 = some res → W p l e ({ frames := 2, cells := 0, slots := 0, locals := 46 }) s m args below meth c H locs 0 0 Q (F0 m 2 ls [])) → ∀ (H : Heap) (locs : List Loc) (ls : Array Slot) (a0 : Nat) (v1 : Int32) (v2 : Int32) , mHp (gD G) (gC G) (gB G) h H → va_S (fun q => gB G ≤ q) s.heap H locs → lv_has ls 3 [(0, va_rf (some a0)), (1, .int v1), (2, .int v2)] → mX5_holdsRipe_b56 k2 h a0 v1 v2 = some res → W p l e ({ frames := 2, cells := 0, slots := 0, locals := 46 }) s m args below meth c H locs 0 0 Q (F0 m 56 ls []) := by
    intro k2 hk2 H locs ls a0 v1 v2 hm hs hl hh
    unfold mX5_holdsRipe_b56 at hh
    refine lv_iinc (v := (v2 + 1)) (lv' := [(2, .int (v2 + 1)), (0, va_rf (some a0)), (1, .int v1)]) C.1 C.2.1 dX5_holdsRipe_56 hl (k := 2) rfl rfl (by decide) rfl (fun ls hl => ?_)
    refine lv_goto (tgt := 2) C.1 C.2.1 dX5_holdsRipe_59 (by decide) ?_
    exact hk2 _ _ _ _ _ _  hm hs (lv_sub hl [1, 2, 0] rfl) hh
  have B2 : ∀ n : Nat, ∀ (H : Heap) (locs : List Loc) (ls : Array Slot) (a0 : Nat) (v1 : Int32) (v2 : Int32) , mHp (gD G) (gC G) (gB G) h H → va_S (fun q => gB G ≤ q) s.heap H locs → lv_has ls 3 [(0, va_rf (some a0)), (1, .int v1), (2, .int v2)] → mX5_holdsRipe_l2 h n a0 v1 v2 = some res → W p l e ({ frames := 2, cells := 0, slots := 0, locals := 46 }) s m args below meth c H locs 0 0 Q (F0 m 2 ls []) := by
    intro n
    induction n with
    | zero => intro H locs ls a0 v1 v2 hm hs hl hh; cases hh
    | succ n ih =>
      intro H locs ls a0 v1 v2 hm hs hl hh
      unfold mX5_holdsRipe_l2 at hh
      refine lv_iload_n C.1 C.2.1 dX5_holdsRipe_2 rfl (lv_at hl 2 rfl) ?_
      refine r_aload_n C.1 C.2.1 dX5_holdsRipe_3 rfl (lv_at hl 0 rfl) ?_
      refine r_getR C hm flX5_34 dX5_holdsRipe_4 hh (fun x1 _ hh => ?_)
      refine r_getR C hm flX5_67 dX5_holdsRipe_7 hh (fun x2 _ hh => ?_)
      refine r_getI C hm flX5_135 dX5_holdsRipe_10 hh (fun x3 _ hh => ?_)
      refine lv_icmp_ge (tgt := 62) C.1 C.2.1 dX5_holdsRipe_13 (by decide) (fun c16 => ?_) (fun c16 => ?_)
      · rw [if_pos c16] at hh
        refine lv_iconst (v := 0) C.1 C.2.1 dX5_holdsRipe_62 (by decide) ?_
        exact r_bretP hQ C hr hm hs (by decide) hh dX5_holdsRipe_63
      · rw [if_neg c16] at hh
        refine lv_iload_n C.1 C.2.1 dX5_holdsRipe_16 rfl (lv_at hl 2 rfl) ?_
        refine lv_bipush (v := 12) C.1 C.2.1 dX5_holdsRipe_17 (by decide) ?_
        refine lv_icmp_ge (tgt := 62) C.1 C.2.1 dX5_holdsRipe_19 (by decide) (fun c15 => ?_) (fun c15 => ?_)
        · rw [if_pos c15] at hh
          refine lv_iconst (v := 0) C.1 C.2.1 dX5_holdsRipe_62 (by decide) ?_
          exact r_bretP hQ C hr hm hs (by decide) hh dX5_holdsRipe_63
        · rw [if_neg c15] at hh
          refine r_aload_n C.1 C.2.1 dX5_holdsRipe_22 rfl (lv_at hl 0 rfl) ?_
          refine r_getR C hm flX5_28 dX5_holdsRipe_23 hh (fun x4 _ hh => ?_)
          refine lv_iload_n C.1 C.2.1 dX5_holdsRipe_26 rfl (lv_at hl 2 rfl) ?_
          refine r_ald C hm dX5_holdsRipe_27 hh (fun x5 _ hh => ?_)
          refine lv_iload_n C.1 C.2.1 dX5_holdsRipe_28 rfl (lv_at hl 1 rfl) ?_
          refine lv_icmp_ne (tgt := 56) C.1 C.2.1 dX5_holdsRipe_29 (by decide) (fun c14 => ?_) (fun c14 => ?_)
          · rw [if_neg c14] at hh
            exact B56 _ ih _ _ _ _ _ _  hm hs (lv_sub hl [0, 1, 2] rfl) hh
          · rw [if_pos c14] at hh
            refine r_aload_n C.1 C.2.1 dX5_holdsRipe_32 rfl (lv_at hl 0 rfl) ?_
            refine r_getR C hm flX5_34 dX5_holdsRipe_33 hh (fun x6 _ hh => ?_)
            refine r_getR C hm flX5_67 dX5_holdsRipe_36 hh (fun x7 _ hh => ?_)
            refine r_getR C hm flX5_126 dX5_holdsRipe_39 hh (fun x8 _ hh => ?_)
            refine lv_iload_n C.1 C.2.1 dX5_holdsRipe_42 rfl (lv_at hl 2 rfl) ?_
            refine r_ald_q C hm dX5_holdsRipe_43 (kd := 25) (by decide) (t0 := 5) rfl hh (fun x9 _ hh => ?_)
            refine r_aload_n C.1 C.2.1 dX5_holdsRipe_44 rfl (lv_at hl 0 rfl) ?_
            refine r_getR C hm flX5_22 dX5_holdsRipe_45 hh (fun x10 _ hh => ?_)
            refine r_cV C X hm hs mlX5_138 mvX5_138 hh (vv := fun r => some (.int r)) (hp := fun r => h) (fun b r hg => c_X10_holds l G h b _ r hg) rfl rfl (Nat.le_of_ble_eq_true rfl) (Nat.le_of_ble_eq_true rfl) (Nat.le_of_ble_eq_true rfl) hl.1 dX5_holdsRipe_48 (fun b12 r11 H locs hgr11 hh hm hs => ?_)
            refine W.eq (g2 := F0 m 51 ls [.int r11]) rfl ?_
            refine lv_if_eq (tgt := 56) C.1 C.2.1 dX5_holdsRipe_51 (by decide) (fun c13 => ?_) (fun c13 => ?_)
            · rw [if_pos c13] at hh
              exact B56 _ ih _ _ _ _ _ _  hm hs (lv_sub hl [0, 1, 2] rfl) hh
            · rw [if_neg c13] at hh
              refine lv_iconst (v := 1) C.1 C.2.1 dX5_holdsRipe_54 (by decide) ?_
              exact r_bretP hQ C hr hm hs (by decide) hh dX5_holdsRipe_55
  unfold mX5_holdsRipe at hh
  refine lv_iconst (v := 0) C.1 C.2.1 dX5_holdsRipe_0 (by decide) ?_
  refine lv_istore_n (i := 2) (lv' := [(2, .int 0), (0, va_rf (some a0)), (1, .int a1)]) C.1 C.2.1 dX5_holdsRipe_1 rfl hl (by decide) rfl (fun ls hl => ?_)
  exact B2 FUEL _ _ _ _ _ _  hm hs (lv_sub hl [1, 2, 0] rfl) hh
def mX5_prepareTrial_b114 (k27 : MHp → Nat → Int32 → Int32 → Int32 → Option (Int32 × MHp)) (h : MHp) (a0 : Nat) (v1 : Int32) (v2 : Int32) (v3 : Int32) : Option (Int32 × MHp) := k27 h a0 v1 v2 (v3 + 1)
def mX5_prepareTrial_b105 (k27 : MHp → Nat → Int32 → Int32 → Int32 → Option (Int32 × MHp)) (k67 : MHp → Nat → Int32 → Int32 → Int32 → Int32 → Option (Int32 × MHp)) (h : MHp) (a0 : Nat) (v1 : Int32) (v2 : Int32) (v3 : Int32) (v4 : Int32) : Option (Int32 × MHp) := k67 h a0 v1 v2 v3 (v4 + 1)
def mX5_prepareTrial_l67 (k27 : MHp → Nat → Int32 → Int32 → Int32 → Option (Int32 × MHp)) : Nat → MHp → Nat → Int32 → Int32 → Int32 → Int32 → Option (Int32 × MHp)
  | 0, _, _, _, _, _, _ => none
  | n + 1, h, a0, v1, v2, v3, v4 => (if 12 ≤ v4 then mX5_prepareTrial_b114 k27 h a0 v1 (v2 + 1) v3 else (gR 6 0 h (some a0)).bind fun x1 => (gR 10 5 h x1).bind fun x2 => (gR 2 3 h x2).bind fun x3 => (gAR 25 h x3 v4).bind fun x4 => (gI 11 4 h x4).bind fun x5 => (if ((x5 >>> (v3 &&& 31)) &&& 1) = 0 then mX5_prepareTrial_b105 k27 (mX5_prepareTrial_l67 k27 n) h a0 v1 v2 v3 v4 else (gR 6 6 h (some a0)).bind fun x6 => (pAI 20 h x6 v4 v2).bind fun h7 => mX5_prepareTrial_b105 k27 (mX5_prepareTrial_l67 k27 n) h7 a0 v1 v2 v3 v4))
def mX5_prepareTrial_l27 : Nat → MHp → Nat → Int32 → Int32 → Int32 → Option (Int32 × MHp)
  | 0, _, _, _, _, _ => none
  | n + 1, h, a0, v1, v2, v3 => (if 6 ≤ v3 then some (v2, h) else (if ((v1 >>> (v3 &&& 31)) &&& 1) = 0 then mX5_prepareTrial_b114 (mX5_prepareTrial_l27 n) h a0 v1 v2 v3 else (gR 6 5 h (some a0)).bind fun x10 => (gN 20 h x10).bind fun x11 => (if x11 ≤ v2 then mX5_prepareTrial_b114 (mX5_prepareTrial_l27 n) h a0 v1 v2 v3 else (gR 6 5 h (some a0)).bind fun x12 => (pAI 20 h x12 v2 v3).bind fun h13 => (gR 6 4 h13 (some a0)).bind fun x14 => (pAI 20 h13 x14 v3 (-1)).bind fun h15 => mX5_prepareTrial_l67 (mX5_prepareTrial_l27 n) FUEL h15 a0 v1 v2 v3 0)))
def mX5_prepareTrial (h : MHp) (a0 : Nat) (a1 : Int32) : Option (Int32 × MHp) := (gR 6 2 h (some a0)).bind fun x19 => (gR 6 4 h (some a0)).bind fun x20 => (cpI 20 h x19 0 x20 0 6).bind fun h21 => (gR 6 6 h21 (some a0)).bind fun x22 => (mJ7_fill_53178 h21 x22 (-1)).bind fun r23 => mX5_prepareTrial_l27 FUEL r23 a0 a1 0 0
set_option maxRecDepth 100000 in
set_option maxHeartbeats 4000000 in
theorem c_X5_prepareTrial (l : Launch) (G : Env0) (h : MHp) (a0 : Nat) (a1 : Int32) (res : Int32 × MHp) (hh : mX5_prepareTrial h a0 a1 = some res) : MG l yX5_prepareTrial cX5_prepareTrial 5 (some .int) 1 23 0 0 G h [.ref a0, .int a1] (some (.int res.1)) (res.2) := by
  refine MG_of (own := RX5) (plainFor_of_name (by decide)) rfl (Nat.le_of_ble_eq_true rfl) ?_
  intro p e s m args below meth c Q ls hQ C X hin hm hs hl hr
  have hl : lv_has ls 5 [(0, va_rf (some a0)), (1, .int a1)] := hl
  have B114 : ∀ (k27 : MHp → Nat → Int32 → Int32 → Int32 → Option (Int32 × MHp)), (∀ (h : MHp) (H : Heap) (locs : List Loc) (ls : Array Slot) (a0 : Nat) (v1 : Int32) (v2 : Int32) (v3 : Int32) , mHp (gD G) (gC G) (gB G) h H → va_S (fun q => gB G ≤ q) s.heap H locs → lv_has ls 5 [(0, va_rf (some a0)), (1, .int v1), (2, .int v2), (3, .int v3)] → k27 h a0 v1 v2 v3 = some res → W p l e ({ frames := 1, cells := 0, slots := 0, locals := 23 }) s m args below meth c H locs 0 0 Q (F0 m 27 ls [])) → ∀ (h : MHp) (H : Heap) (locs : List Loc) (ls : Array Slot) (a0 : Nat) (v1 : Int32) (v2 : Int32) (v3 : Int32) , mHp (gD G) (gC G) (gB G) h H → va_S (fun q => gB G ≤ q) s.heap H locs → lv_has ls 5 [(0, va_rf (some a0)), (1, .int v1), (2, .int v2), (3, .int v3)] → mX5_prepareTrial_b114 k27 h a0 v1 v2 v3 = some res → W p l e ({ frames := 1, cells := 0, slots := 0, locals := 23 }) s m args below meth c H locs 0 0 Q (F0 m 114 ls []) := by
    intro k27 hk27 h H locs ls a0 v1 v2 v3 hm hs hl hh
    unfold mX5_prepareTrial_b114 at hh
    refine lv_iinc (v := (v3 + 1)) (lv' := [(3, .int (v3 + 1)), (0, va_rf (some a0)), (1, .int v1), (2, .int v2)]) C.1 C.2.1 dX5_prepareTrial_114 hl (k := 3) rfl rfl (by decide) rfl (fun ls hl => ?_)
    refine lv_goto (tgt := 27) C.1 C.2.1 dX5_prepareTrial_117 (by decide) ?_
    exact hk27 _ _ _ _ _ _ _ _  hm hs (lv_sub hl [1, 2, 3, 0] rfl) hh
  have B105 : ∀ (k27 : MHp → Nat → Int32 → Int32 → Int32 → Option (Int32 × MHp)), (∀ (h : MHp) (H : Heap) (locs : List Loc) (ls : Array Slot) (a0 : Nat) (v1 : Int32) (v2 : Int32) (v3 : Int32) , mHp (gD G) (gC G) (gB G) h H → va_S (fun q => gB G ≤ q) s.heap H locs → lv_has ls 5 [(0, va_rf (some a0)), (1, .int v1), (2, .int v2), (3, .int v3)] → k27 h a0 v1 v2 v3 = some res → W p l e ({ frames := 1, cells := 0, slots := 0, locals := 23 }) s m args below meth c H locs 0 0 Q (F0 m 27 ls [])) → ∀ (k67 : MHp → Nat → Int32 → Int32 → Int32 → Int32 → Option (Int32 × MHp)), (∀ (h : MHp) (H : Heap) (locs : List Loc) (ls : Array Slot) (a0 : Nat) (v1 : Int32) (v2 : Int32) (v3 : Int32) (v4 : Int32) , mHp (gD G) (gC G) (gB G) h H → va_S (fun q => gB G ≤ q) s.heap H locs → lv_has ls 5 [(0, va_rf (some a0)), (1, .int v1), (2, .int v2), (3, .int v3), (4, .int v4)] → k67 h a0 v1 v2 v3 v4 = some res → W p l e ({ frames := 1, cells := 0, slots := 0, locals := 23 }) s m args below meth c H locs 0 0 Q (F0 m 67 ls [])) → ∀ (h : MHp) (H : Heap) (locs : List Loc) (ls : Array Slot) (a0 : Nat) (v1 : Int32) (v2 : Int32) (v3 : Int32) (v4 : Int32) , mHp (gD G) (gC G) (gB G) h H → va_S (fun q => gB G ≤ q) s.heap H locs → lv_has ls 5 [(0, va_rf (some a0)), (1, .int v1), (2, .int v2), (3, .int v3), (4, .int v4)] → mX5_prepareTrial_b105 k27 k67 h a0 v1 v2 v3 v4 = some res → W p l e ({ frames := 1, cells := 0, slots := 0, locals := 23 }) s m args below meth c H locs 0 0 Q (F0 m 105 ls []) := by
    intro k27 hk27 k67 hk67 h H locs ls a0 v1 v2 v3 v4 hm hs hl hh
    unfold mX5_prepareTrial_b105 at hh
    refine lv_iinc (v := (v4 + 1)) (lv' := [(4, .int (v4 + 1)), (0, va_rf (some a0)), (1, .int v1), (2, .int v2), (3, .int v3)]) C.1 C.2.1 dX5_prepareTrial_105 hl (k := 4) rfl rfl (by decide) rfl (fun ls hl => ?_)
    refine lv_goto (tgt := 67) C.1 C.2.1 dX5_prepareTrial_108 (by decide) ?_
    exact hk67 _ _ _ _ _ _ _ _ _  hm hs (lv_sub hl [1, 2, 3, 4, 0] rfl) hh
  have B67 : ∀ (k27 : MHp → Nat → Int32 → Int32 → Int32 → Option (Int32 × MHp)), (∀ (h : MHp) (H : Heap) (locs : List Loc) (ls : Array Slot) (a0 : Nat) (v1 : Int32) (v2 : Int32) (v3 : Int32) , mHp (gD G) (gC G) (gB G) h H → va_S (fun q => gB G ≤ q) s.heap H locs → lv_has ls 5 [(0, va_rf (some a0)), (1, .int v1), (2, .int v2), (3, .int v3)] → k27 h a0 v1 v2 v3 = some res → W p l e ({ frames := 1, cells := 0, slots := 0, locals := 23 }) s m args below meth c H locs 0 0 Q (F0 m 27 ls [])) → ∀ n : Nat, ∀ (h : MHp) (H : Heap) (locs : List Loc) (ls : Array Slot) (a0 : Nat) (v1 : Int32) (v2 : Int32) (v3 : Int32) (v4 : Int32) , mHp (gD G) (gC G) (gB G) h H → va_S (fun q => gB G ≤ q) s.heap H locs → lv_has ls 5 [(0, va_rf (some a0)), (1, .int v1), (2, .int v2), (3, .int v3), (4, .int v4)] → mX5_prepareTrial_l67 k27 n h a0 v1 v2 v3 v4 = some res → W p l e ({ frames := 1, cells := 0, slots := 0, locals := 23 }) s m args below meth c H locs 0 0 Q (F0 m 67 ls []) := by
    intro k27 hk27 n
    induction n with
    | zero => intro h H locs ls a0 v1 v2 v3 v4 hm hs hl hh; cases hh
    | succ n ih =>
      intro h H locs ls a0 v1 v2 v3 v4 hm hs hl hh
      unfold mX5_prepareTrial_l67 at hh
      refine lv_iload C.1 C.2.1 dX5_prepareTrial_67 (lv_at hl 4 rfl) ?_
      refine lv_bipush (v := 12) C.1 C.2.1 dX5_prepareTrial_69 (by decide) ?_
      refine lv_icmp_ge (tgt := 111) C.1 C.2.1 dX5_prepareTrial_71 (by decide) (fun c9 => ?_) (fun c9 => ?_)
      · rw [if_pos c9] at hh
        refine lv_iinc (v := (v2 + 1)) (lv' := [(2, .int (v2 + 1)), (0, va_rf (some a0)), (1, .int v1), (3, .int v3), (4, .int v4)]) C.1 C.2.1 dX5_prepareTrial_111 hl (k := 2) rfl rfl (by decide) rfl (fun ls hl => ?_)
        exact B114 _ hk27 _ _ _ _ _ _ _ _  hm hs (lv_sub hl [1, 2, 0, 3] rfl) hh
      · rw [if_neg c9] at hh
        refine r_aload_n C.1 C.2.1 dX5_prepareTrial_74 rfl (lv_at hl 0 rfl) ?_
        refine r_getR C hm flX5_34 dX5_prepareTrial_75 hh (fun x1 _ hh => ?_)
        refine r_getR C hm flX5_67 dX5_prepareTrial_78 hh (fun x2 _ hh => ?_)
        refine r_getR C hm flX5_126 dX5_prepareTrial_81 hh (fun x3 _ hh => ?_)
        refine lv_iload C.1 C.2.1 dX5_prepareTrial_84 (lv_at hl 4 rfl) ?_
        refine r_ald_q C hm dX5_prepareTrial_86 (kd := 25) (by decide) (t0 := 5) rfl hh (fun x4 _ hh => ?_)
        refine r_getI C hm flX5_130 dX5_prepareTrial_87 hh (fun x5 _ hh => ?_)
        refine lv_iload_n C.1 C.2.1 dX5_prepareTrial_90 rfl (lv_at hl 3 rfl) ?_
        refine lv_ishr C.1 C.2.1 dX5_prepareTrial_91 ?_
        refine lv_iconst (v := 1) C.1 C.2.1 dX5_prepareTrial_92 (by decide) ?_
        refine lv_iand C.1 C.2.1 dX5_prepareTrial_93 ?_
        refine lv_if_eq (tgt := 105) C.1 C.2.1 dX5_prepareTrial_94 (by decide) (fun c8 => ?_) (fun c8 => ?_)
        · rw [if_pos c8] at hh
          exact B105 _ hk27 _ ih _ _ _ _ _ _ _ _ _  hm hs (lv_sub hl [0, 1, 2, 3, 4] rfl) hh
        · rw [if_neg c8] at hh
          refine r_aload_n C.1 C.2.1 dX5_prepareTrial_97 rfl (lv_at hl 0 rfl) ?_
          refine r_getR C hm flX5_28 dX5_prepareTrial_98 hh (fun x6 _ hh => ?_)
          refine lv_iload C.1 C.2.1 dX5_prepareTrial_101 (lv_at hl 4 rfl) ?_
          refine lv_iload_n C.1 C.2.1 dX5_prepareTrial_103 rfl (lv_at hl 2 rfl) ?_
          refine r_ast C hm hs dX5_prepareTrial_104 hh (fun h7 H locs _ hh hm hs => ?_)
          exact B105 _ hk27 _ ih _ _ _ _ _ _ _ _ _  hm hs (lv_sub hl [0, 1, 2, 3, 4] rfl) hh
  have B27 : ∀ n : Nat, ∀ (h : MHp) (H : Heap) (locs : List Loc) (ls : Array Slot) (a0 : Nat) (v1 : Int32) (v2 : Int32) (v3 : Int32) , mHp (gD G) (gC G) (gB G) h H → va_S (fun q => gB G ≤ q) s.heap H locs → lv_has ls 5 [(0, va_rf (some a0)), (1, .int v1), (2, .int v2), (3, .int v3)] → mX5_prepareTrial_l27 n h a0 v1 v2 v3 = some res → W p l e ({ frames := 1, cells := 0, slots := 0, locals := 23 }) s m args below meth c H locs 0 0 Q (F0 m 27 ls []) := by
    intro n
    induction n with
    | zero => intro h H locs ls a0 v1 v2 v3 hm hs hl hh; cases hh
    | succ n ih =>
      intro h H locs ls a0 v1 v2 v3 hm hs hl hh
      unfold mX5_prepareTrial_l27 at hh
      refine lv_iload_n C.1 C.2.1 dX5_prepareTrial_27 rfl (lv_at hl 3 rfl) ?_
      refine lv_bipush (v := 6) C.1 C.2.1 dX5_prepareTrial_28 (by decide) ?_
      refine lv_icmp_ge (tgt := 120) C.1 C.2.1 dX5_prepareTrial_30 (by decide) (fun c18 => ?_) (fun c18 => ?_)
      · rw [if_pos c18] at hh
        refine lv_iload_n C.1 C.2.1 dX5_prepareTrial_120 rfl (lv_at hl 2 rfl) ?_
        exact r_iretW hQ C hr hm hs hh dX5_prepareTrial_121
      · rw [if_neg c18] at hh
        refine lv_iload_n C.1 C.2.1 dX5_prepareTrial_33 rfl (lv_at hl 1 rfl) ?_
        refine lv_iload_n C.1 C.2.1 dX5_prepareTrial_34 rfl (lv_at hl 3 rfl) ?_
        refine lv_ishr C.1 C.2.1 dX5_prepareTrial_35 ?_
        refine lv_iconst (v := 1) C.1 C.2.1 dX5_prepareTrial_36 (by decide) ?_
        refine lv_iand C.1 C.2.1 dX5_prepareTrial_37 ?_
        refine lv_if_eq (tgt := 114) C.1 C.2.1 dX5_prepareTrial_38 (by decide) (fun c17 => ?_) (fun c17 => ?_)
        · rw [if_pos c17] at hh
          exact B114 _ ih _ _ _ _ _ _ _ _  hm hs (lv_sub hl [0, 1, 2, 3] rfl) hh
        · rw [if_neg c17] at hh
          refine lv_iload_n C.1 C.2.1 dX5_prepareTrial_41 rfl (lv_at hl 2 rfl) ?_
          refine r_aload_n C.1 C.2.1 dX5_prepareTrial_42 rfl (lv_at hl 0 rfl) ?_
          refine r_getR C hm flX5_25 dX5_prepareTrial_43 hh (fun x10 _ hh => ?_)
          refine r_len C hm dX5_prepareTrial_46 (kd := 20) (by decide) hh (fun x11 _ hh => ?_)
          refine lv_icmp_ge (tgt := 114) C.1 C.2.1 dX5_prepareTrial_47 (by decide) (fun c16 => ?_) (fun c16 => ?_)
          · rw [if_pos c16] at hh
            exact B114 _ ih _ _ _ _ _ _ _ _  hm hs (lv_sub hl [0, 1, 2, 3] rfl) hh
          · rw [if_neg c16] at hh
            refine r_aload_n C.1 C.2.1 dX5_prepareTrial_50 rfl (lv_at hl 0 rfl) ?_
            refine r_getR C hm flX5_25 dX5_prepareTrial_51 hh (fun x12 _ hh => ?_)
            refine lv_iload_n C.1 C.2.1 dX5_prepareTrial_54 rfl (lv_at hl 2 rfl) ?_
            refine lv_iload_n C.1 C.2.1 dX5_prepareTrial_55 rfl (lv_at hl 3 rfl) ?_
            refine r_ast C hm hs dX5_prepareTrial_56 hh (fun h13 H locs _ hh hm hs => ?_)
            refine r_aload_n C.1 C.2.1 dX5_prepareTrial_57 rfl (lv_at hl 0 rfl) ?_
            refine r_getR C hm flX5_22 dX5_prepareTrial_58 hh (fun x14 _ hh => ?_)
            refine lv_iload_n C.1 C.2.1 dX5_prepareTrial_61 rfl (lv_at hl 3 rfl) ?_
            refine lv_iconst (v := (-1)) C.1 C.2.1 dX5_prepareTrial_62 (by decide) ?_
            refine r_ast C hm hs dX5_prepareTrial_63 hh (fun h15 H locs _ hh hm hs => ?_)
            refine lv_iconst (v := 0) C.1 C.2.1 dX5_prepareTrial_64 (by decide) ?_
            refine lv_istore (i := 4) (lv' := [(4, .int 0), (0, va_rf (some a0)), (1, .int v1), (2, .int v2), (3, .int v3)]) C.1 C.2.1 dX5_prepareTrial_65 hl (by decide) rfl (fun ls hl => ?_)
            exact B67 _ ih FUEL _ _ _ _ _ _ _ _ _  hm hs (lv_sub hl [1, 2, 3, 4, 0] rfl) hh
  unfold mX5_prepareTrial at hh
  refine r_aload_n C.1 C.2.1 dX5_prepareTrial_0 rfl (lv_at hl 0 rfl) ?_
  refine r_getR C hm flX5_15 dX5_prepareTrial_1 hh (fun x19 _ hh => ?_)
  refine lv_iconst (v := 0) C.1 C.2.1 dX5_prepareTrial_4 (by decide) ?_
  refine r_aload_n C.1 C.2.1 dX5_prepareTrial_5 rfl (lv_at hl 0 rfl) ?_
  refine r_getR C hm flX5_22 dX5_prepareTrial_6 hh (fun x20 _ hh => ?_)
  refine lv_iconst (v := 0) C.1 C.2.1 dX5_prepareTrial_9 (by decide) ?_
  refine lv_bipush (v := 6) C.1 C.2.1 dX5_prepareTrial_10 (by decide) ?_
  refine r_copyI C hm hs (in_tbl q_797 rfl) ACW dX5_prepareTrial_12 hl.1 (Nat.le_of_ble_eq_true rfl) (Nat.le_of_ble_eq_true rfl) hh (fun h21 H locs _ hh hm hs => ?_)
  refine r_aload_n C.1 C.2.1 dX5_prepareTrial_15 rfl (lv_at hl 0 rfl) ?_
  refine r_getR C hm flX5_28 dX5_prepareTrial_16 hh (fun x22 _ hh => ?_)
  refine lv_iconst (v := (-1)) C.1 C.2.1 dX5_prepareTrial_19 (by decide) ?_
  refine r_cS C X hm hs mlX5_120 msX5_120 hh (vv := fun r => none) (hp := fun r => r) (fun r hg => c_J7_fill_53178 l G h21 _ _ r hg) rfl rfl (Nat.le_of_ble_eq_true rfl) (Nat.le_of_ble_eq_true rfl) (Nat.le_of_ble_eq_true rfl) hl.1 dX5_prepareTrial_20 (fun r23 H locs hgr23 hh hm hs => ?_)
  refine W.eq (g2 := F0 m 23 ls []) rfl ?_
  refine lv_iconst (v := 0) C.1 C.2.1 dX5_prepareTrial_23 (by decide) ?_
  refine lv_istore_n (i := 2) (lv' := [(2, .int 0), (0, va_rf (some a0)), (1, .int a1)]) C.1 C.2.1 dX5_prepareTrial_24 rfl hl (by decide) rfl (fun ls hl => ?_)
  refine lv_iconst (v := 0) C.1 C.2.1 dX5_prepareTrial_25 (by decide) ?_
  refine lv_istore_n (i := 3) (lv' := [(3, .int 0), (2, .int 0), (0, va_rf (some a0)), (1, .int a1)]) C.1 C.2.1 dX5_prepareTrial_26 rfl hl (by decide) rfl (fun ls hl => ?_)
  exact B27 FUEL _ _ _ _ _ _ _ _  hm hs (lv_sub hl [2, 3, 1, 0] rfl) hh
def mX5_raise (h : MHp) (a0 : Nat) (a1 : Int32) : Option (Int32 × MHp) := (if a1 < 0 then some (0, h) else (gR 6 4 h (some a0)).bind fun x1 => (gN 20 h x1).bind fun x2 => (if x2 ≤ a1 then some (0, h) else (gR 6 4 h (some a0)).bind fun x3 => (gAI 20 h x3 a1).bind fun x4 => (gR 6 0 h (some a0)).bind fun x5 => (gR 10 5 h x5).bind fun x6 => (rcv 2 h x6).bind fun b8 => (mX1_topOf h b8 a1).bind fun r7 => (if x4 < r7 then (gR 6 4 h (some a0)).bind fun x9 => (gAI 20 h x9 a1).bind fun x10 => (pAI 20 h x9 a1 (x10 + 1)).bind fun h11 => some (1, h11) else some (0, h))))
set_option maxRecDepth 100000 in
set_option maxHeartbeats 4000000 in
theorem c_X5_raise (l : Launch) (G : Env0) (h : MHp) (a0 : Nat) (a1 : Int32) (res : Int32 × MHp) (hh : mX5_raise h a0 a1 = some res) : MG l yX5_raise cX5_raise 2 (some .boolean) 2 42 0 0 G h [.ref a0, .int a1] (some (.int res.1)) (res.2) := by
  refine MG_of (own := RX5) (plainFor_of_name (by decide)) rfl (Nat.le_of_ble_eq_true rfl) ?_
  intro p e s m args below meth c Q ls hQ C X hin hm hs hl hr
  have hl : lv_has ls 2 [(0, va_rf (some a0)), (1, .int a1)] := hl
  unfold mX5_raise at hh
  refine lv_iload_n C.1 C.2.1 dX5_raise_0 rfl (lv_at hl 1 rfl) ?_
  refine lv_if_lt (tgt := 33) C.1 C.2.1 dX5_raise_1 (by decide) (fun c14 => ?_) (fun c14 => ?_)
  · rw [if_pos c14] at hh
    refine lv_iconst (v := 0) C.1 C.2.1 dX5_raise_33 (by decide) ?_
    exact r_bretW hQ C hr hm hs (by decide) hh dX5_raise_34
  · rw [if_neg c14] at hh
    refine lv_iload_n C.1 C.2.1 dX5_raise_4 rfl (lv_at hl 1 rfl) ?_
    refine r_aload_n C.1 C.2.1 dX5_raise_5 rfl (lv_at hl 0 rfl) ?_
    refine r_getR C hm flX5_22 dX5_raise_6 hh (fun x1 _ hh => ?_)
    refine r_len C hm dX5_raise_9 (kd := 20) (by decide) hh (fun x2 _ hh => ?_)
    refine lv_icmp_ge (tgt := 33) C.1 C.2.1 dX5_raise_10 (by decide) (fun c13 => ?_) (fun c13 => ?_)
    · rw [if_pos c13] at hh
      refine lv_iconst (v := 0) C.1 C.2.1 dX5_raise_33 (by decide) ?_
      exact r_bretW hQ C hr hm hs (by decide) hh dX5_raise_34
    · rw [if_neg c13] at hh
      refine r_aload_n C.1 C.2.1 dX5_raise_13 rfl (lv_at hl 0 rfl) ?_
      refine r_getR C hm flX5_22 dX5_raise_14 hh (fun x3 _ hh => ?_)
      refine lv_iload_n C.1 C.2.1 dX5_raise_17 rfl (lv_at hl 1 rfl) ?_
      refine r_ald C hm dX5_raise_18 hh (fun x4 _ hh => ?_)
      refine r_aload_n C.1 C.2.1 dX5_raise_19 rfl (lv_at hl 0 rfl) ?_
      refine r_getR C hm flX5_34 dX5_raise_20 hh (fun x5 _ hh => ?_)
      refine r_getR C hm flX5_67 dX5_raise_23 hh (fun x6 _ hh => ?_)
      refine lv_iload_n C.1 C.2.1 dX5_raise_26 rfl (lv_at hl 1 rfl) ?_
      refine r_cV C X hm hs mlX5_142 mvX5_142 hh (vv := fun r => some (.int r)) (hp := fun r => h) (fun b r hg => c_X1_topOf l G h b _ r hg) rfl rfl (Nat.le_of_ble_eq_true rfl) (Nat.le_of_ble_eq_true rfl) (Nat.le_of_ble_eq_true rfl) hl.1 dX5_raise_27 (fun b8 r7 H locs hgr7 hh hm hs => ?_)
      refine W.eq (g2 := F0 m 30 ls [.int r7, .int x4]) rfl ?_
      refine lv_icmp_lt (tgt := 35) C.1 C.2.1 dX5_raise_30 (by decide) (fun c12 => ?_) (fun c12 => ?_)
      · rw [if_pos c12] at hh
        refine r_aload_n C.1 C.2.1 dX5_raise_35 rfl (lv_at hl 0 rfl) ?_
        refine r_getR C hm flX5_22 dX5_raise_36 hh (fun x9 _ hh => ?_)
        refine lv_iload_n C.1 C.2.1 dX5_raise_39 rfl (lv_at hl 1 rfl) ?_
        refine lv_dup2_11 C.1 C.2.1 dX5_raise_40 rfl (va_cat _) ?_
        refine r_ald C hm dX5_raise_41 hh (fun x10 _ hh => ?_)
        refine lv_iconst (v := 1) C.1 C.2.1 dX5_raise_42 (by decide) ?_
        refine lv_iadd C.1 C.2.1 dX5_raise_43 ?_
        refine r_ast C hm hs dX5_raise_44 hh (fun h11 H locs _ hh hm hs => ?_)
        refine lv_iconst (v := 1) C.1 C.2.1 dX5_raise_45 (by decide) ?_
        exact r_bretW hQ C hr hm hs (by decide) hh dX5_raise_46
      · rw [if_neg c12] at hh
        refine lv_iconst (v := 0) C.1 C.2.1 dX5_raise_33 (by decide) ?_
        exact r_bretW hQ C hr hm hs (by decide) hh dX5_raise_34
def mX5_startAt (h : MHp) (a0 : Nat) (a1 : Int32) : Option (MHp) := (if a1 < 0 then some h else (gR 6 5 h (some a0)).bind fun x1 => (gN 20 h x1).bind fun x2 => (if x2 ≤ a1 then some h else (gR 6 5 h (some a0)).bind fun x3 => (gAI 20 h x3 a1).bind fun x4 => (if x4 < 0 then some h else (gR 6 4 h (some a0)).bind fun x5 => (gN 20 h x5).bind fun x6 => (if x6 ≤ x4 then some h else (gR 6 4 h (some a0)).bind fun x7 => (pAI 20 h x7 x4 (-1)).bind fun h8 => some h8))))
set_option maxRecDepth 100000 in
set_option maxHeartbeats 4000000 in
theorem c_X5_startAt (l : Launch) (G : Env0) (h : MHp) (a0 : Nat) (a1 : Int32) (res : MHp) (hh : mX5_startAt h a0 a1 = some res) : MG l yX5_startAt cX5_startAt 3 none 0 0 0 0 G h [.ref a0, .int a1] (none) (res) := by
  refine MG_of (own := RX5) (plainFor_of_name (by decide)) rfl (Nat.le_of_ble_eq_true rfl) ?_
  intro p e s m args below meth c Q ls hQ C X hin hm hs hl hr
  have hl : lv_has ls 3 [(0, va_rf (some a0)), (1, .int a1)] := hl
  unfold mX5_startAt at hh
  refine lv_iload_n C.1 C.2.1 dX5_startAt_0 rfl (lv_at hl 1 rfl) ?_
  refine lv_if_lt (tgt := 40) C.1 C.2.1 dX5_startAt_1 (by decide) (fun c12 => ?_) (fun c12 => ?_)
  · rw [if_pos c12] at hh
    exact r_vretW hQ C hr hm hs hh dX5_startAt_40
  · rw [if_neg c12] at hh
    refine lv_iload_n C.1 C.2.1 dX5_startAt_4 rfl (lv_at hl 1 rfl) ?_
    refine r_aload_n C.1 C.2.1 dX5_startAt_5 rfl (lv_at hl 0 rfl) ?_
    refine r_getR C hm flX5_25 dX5_startAt_6 hh (fun x1 _ hh => ?_)
    refine r_len C hm dX5_startAt_9 (kd := 20) (by decide) hh (fun x2 _ hh => ?_)
    refine lv_icmp_ge (tgt := 40) C.1 C.2.1 dX5_startAt_10 (by decide) (fun c11 => ?_) (fun c11 => ?_)
    · rw [if_pos c11] at hh
      exact r_vretW hQ C hr hm hs hh dX5_startAt_40
    · rw [if_neg c11] at hh
      refine r_aload_n C.1 C.2.1 dX5_startAt_13 rfl (lv_at hl 0 rfl) ?_
      refine r_getR C hm flX5_25 dX5_startAt_14 hh (fun x3 _ hh => ?_)
      refine lv_iload_n C.1 C.2.1 dX5_startAt_17 rfl (lv_at hl 1 rfl) ?_
      refine r_ald C hm dX5_startAt_18 hh (fun x4 _ hh => ?_)
      refine lv_istore_n (i := 2) (lv' := [(2, .int x4), (0, va_rf (some a0)), (1, .int a1)]) C.1 C.2.1 dX5_startAt_19 rfl hl (by decide) rfl (fun ls hl => ?_)
      refine lv_iload_n C.1 C.2.1 dX5_startAt_20 rfl (lv_at hl 0 rfl) ?_
      refine lv_if_lt (tgt := 40) C.1 C.2.1 dX5_startAt_21 (by decide) (fun c10 => ?_) (fun c10 => ?_)
      · rw [if_pos c10] at hh
        exact r_vretW hQ C hr hm hs hh dX5_startAt_40
      · rw [if_neg c10] at hh
        refine lv_iload_n C.1 C.2.1 dX5_startAt_24 rfl (lv_at hl 0 rfl) ?_
        refine r_aload_n C.1 C.2.1 dX5_startAt_25 rfl (lv_at hl 1 rfl) ?_
        refine r_getR C hm flX5_22 dX5_startAt_26 hh (fun x5 _ hh => ?_)
        refine r_len C hm dX5_startAt_29 (kd := 20) (by decide) hh (fun x6 _ hh => ?_)
        refine lv_icmp_ge (tgt := 40) C.1 C.2.1 dX5_startAt_30 (by decide) (fun c9 => ?_) (fun c9 => ?_)
        · rw [if_pos c9] at hh
          exact r_vretW hQ C hr hm hs hh dX5_startAt_40
        · rw [if_neg c9] at hh
          refine r_aload_n C.1 C.2.1 dX5_startAt_33 rfl (lv_at hl 1 rfl) ?_
          refine r_getR C hm flX5_22 dX5_startAt_34 hh (fun x7 _ hh => ?_)
          refine lv_iload_n C.1 C.2.1 dX5_startAt_37 rfl (lv_at hl 0 rfl) ?_
          refine lv_iconst (v := (-1)) C.1 C.2.1 dX5_startAt_38 (by decide) ?_
          refine r_ast C hm hs dX5_startAt_39 hh (fun h8 H locs _ hh hm hs => ?_)
          exact r_vretW hQ C hr hm hs hh dX5_startAt_40
def mX5_findValues_b93 (h : MHp) (v2 : Int32) (v3 : Int32) : Option (Int32 × MHp) := (if v3 = v2 then some (1, h) else some (0, h))
def mX5_findValues_b87 (k21 : MHp → Nat → Int32 → Int32 → Int32 → Option (Int32 × MHp)) (h : MHp) (a0 : Nat) (v2 : Int32) (v3 : Int32) (v4 : Int32) : Option (Int32 × MHp) := k21 h a0 v2 v3 (v4 + 1)
def mX5_findValues_l21 : Nat → MHp → Nat → Int32 → Int32 → Int32 → Option (Int32 × MHp)
  | 0, _, _, _, _, _ => none
  | n + 1, h, a0, v2, v3, v4 => (if 1000000 ≤ v4 then mX5_findValues_b93 h v2 v3 else (if v3 < 0 then mX5_findValues_b93 h v2 v3 else (if v2 ≤ v3 then mX5_findValues_b93 h v2 v3 else (if 6 ≤ v3 then mX5_findValues_b93 h v2 v3 else (gR 6 5 h (some a0)).bind fun x2 => (gAI 20 h x2 v3).bind fun x3 => (rcv 6 h (some a0)).bind fun b5 => (mX5_raise h b5 x3).bind fun r4 => (if r4.1 = 0 then mX5_findValues_b87 (mX5_findValues_l21 n) r4.2 a0 v2 (v3 + (-1)) v4 else (rcv 6 r4.2 (some a0)).bind fun b7 => (mX5_holdsRipe r4.2 b7 v3).bind fun r6 => (if r6 = 0 then (if v2 ≤ (v3 + 1) then mX5_findValues_b87 (mX5_findValues_l21 n) r4.2 a0 v2 (v3 + 1) v4 else (rcv 6 r4.2 (some a0)).bind fun b9 => (mX5_startAt r4.2 b9 (v3 + 1)).bind fun r8 => mX5_findValues_b87 (mX5_findValues_l21 n) r8 a0 v2 (v3 + 1) v4) else mX5_findValues_b87 (mX5_findValues_l21 n) r4.2 a0 v2 v3 v4))))))
def mX5_findValues (h : MHp) (a0 : Nat) (a1 : Int32) : Option (Int32 × MHp) := (rcv 6 h (some a0)).bind fun b18 => (mX5_prepareTrial h b18 a1).bind fun r17 => (rcv 6 r17.2 (some a0)).bind fun b20 => (mX5_holdsRipe r17.2 b20 (-1)).bind fun r19 => (if r19 = 0 then mX5_findValues_l21 FUEL r17.2 a0 r17.1 0 0 else some (0, r17.2))
set_option maxRecDepth 100000 in
set_option maxHeartbeats 4000000 in
theorem c_X5_findValues (l : Launch) (G : Env0) (h : MHp) (a0 : Nat) (a1 : Int32) (res : Int32 × MHp) (hh : mX5_findValues h a0 a1 = some res) : MG l yX5_findValues cX5_findValues 6 (some .boolean) 3 68 0 0 G h [.ref a0, .int a1] (some (.int res.1)) (res.2) := by
  refine MG_of (own := RX5) (plainFor_of_name (by decide)) rfl (Nat.le_of_ble_eq_true rfl) ?_
  intro p e s m args below meth c Q ls hQ C X hin hm hs hl hr
  have hl : lv_has ls 6 [(0, va_rf (some a0)), (1, .int a1)] := hl
  have B93 : ∀ (h : MHp) (H : Heap) (locs : List Loc) (ls : Array Slot) (v2 : Int32) (v3 : Int32) , mHp (gD G) (gC G) (gB G) h H → va_S (fun q => gB G ≤ q) s.heap H locs → lv_has ls 6 [(2, .int v2), (3, .int v3)] → mX5_findValues_b93 h v2 v3 = some res → W p l e ({ frames := 3, cells := 0, slots := 0, locals := 68 }) s m args below meth c H locs 0 0 Q (F0 m 93 ls []) := by
    intro h H locs ls v2 v3 hm hs hl hh
    unfold mX5_findValues_b93 at hh
    refine lv_iload_n C.1 C.2.1 dX5_findValues_93 rfl (lv_at hl 1 rfl) ?_
    refine lv_iload_n C.1 C.2.1 dX5_findValues_94 rfl (lv_at hl 0 rfl) ?_
    refine lv_icmp_ne (tgt := 102) C.1 C.2.1 dX5_findValues_95 (by decide) (fun c1 => ?_) (fun c1 => ?_)
    · rw [if_neg c1] at hh
      refine lv_iconst (v := 0) C.1 C.2.1 dX5_findValues_102 (by decide) ?_
      exact r_bretW hQ C hr hm hs (by decide) hh dX5_findValues_103
    · rw [if_pos c1] at hh
      refine lv_iconst (v := 1) C.1 C.2.1 dX5_findValues_98 (by decide) ?_
      refine lv_goto (tgt := 103) C.1 C.2.1 dX5_findValues_99 (by decide) ?_
      exact r_bretW hQ C hr hm hs (by decide) hh dX5_findValues_103
  have B87 : ∀ (k21 : MHp → Nat → Int32 → Int32 → Int32 → Option (Int32 × MHp)), (∀ (h : MHp) (H : Heap) (locs : List Loc) (ls : Array Slot) (a0 : Nat) (v2 : Int32) (v3 : Int32) (v4 : Int32) , mHp (gD G) (gC G) (gB G) h H → va_S (fun q => gB G ≤ q) s.heap H locs → lv_has ls 6 [(0, va_rf (some a0)), (2, .int v2), (3, .int v3), (4, .int v4)] → k21 h a0 v2 v3 v4 = some res → W p l e ({ frames := 3, cells := 0, slots := 0, locals := 68 }) s m args below meth c H locs 0 0 Q (F0 m 21 ls [])) → ∀ (h : MHp) (H : Heap) (locs : List Loc) (ls : Array Slot) (a0 : Nat) (v2 : Int32) (v3 : Int32) (v4 : Int32) , mHp (gD G) (gC G) (gB G) h H → va_S (fun q => gB G ≤ q) s.heap H locs → lv_has ls 6 [(0, va_rf (some a0)), (2, .int v2), (3, .int v3), (4, .int v4)] → mX5_findValues_b87 k21 h a0 v2 v3 v4 = some res → W p l e ({ frames := 3, cells := 0, slots := 0, locals := 68 }) s m args below meth c H locs 0 0 Q (F0 m 87 ls []) := by
    intro k21 hk21 h H locs ls a0 v2 v3 v4 hm hs hl hh
    unfold mX5_findValues_b87 at hh
    refine lv_iinc (v := (v4 + 1)) (lv' := [(4, .int (v4 + 1)), (0, va_rf (some a0)), (2, .int v2), (3, .int v3)]) C.1 C.2.1 dX5_findValues_87 hl (k := 3) rfl rfl (by decide) rfl (fun ls hl => ?_)
    refine lv_goto (tgt := 21) C.1 C.2.1 dX5_findValues_90 (by decide) ?_
    exact hk21 _ _ _ _ _ _ _ _  hm hs (lv_sub hl [1, 2, 3, 0] rfl) hh
  have B21 : ∀ n : Nat, ∀ (h : MHp) (H : Heap) (locs : List Loc) (ls : Array Slot) (a0 : Nat) (v2 : Int32) (v3 : Int32) (v4 : Int32) , mHp (gD G) (gC G) (gB G) h H → va_S (fun q => gB G ≤ q) s.heap H locs → lv_has ls 6 [(0, va_rf (some a0)), (2, .int v2), (3, .int v3), (4, .int v4)] → mX5_findValues_l21 n h a0 v2 v3 v4 = some res → W p l e ({ frames := 3, cells := 0, slots := 0, locals := 68 }) s m args below meth c H locs 0 0 Q (F0 m 21 ls []) := by
    intro n
    induction n with
    | zero => intro h H locs ls a0 v2 v3 v4 hm hs hl hh; cases hh
    | succ n ih =>
      intro h H locs ls a0 v2 v3 v4 hm hs hl hh
      unfold mX5_findValues_l21 at hh
      refine lv_iload C.1 C.2.1 dX5_findValues_21 (lv_at hl 3 rfl) ?_
      refine lv_ldc (v := 1000000) C.1 C.2.1 C.2.2.2.1 (C.2.2.2.2.1 _ (in_tbl q_804 rfl)) dX5_findValues_23 ?_
      refine lv_icmp_ge (tgt := 93) C.1 C.2.1 dX5_findValues_25 (by decide) (fun c16 => ?_) (fun c16 => ?_)
      · rw [if_pos c16] at hh
        exact B93 _ _ _ _ _ _  hm hs (lv_sub hl [1, 2] rfl) hh
      · rw [if_neg c16] at hh
        refine lv_iload_n C.1 C.2.1 dX5_findValues_28 rfl (lv_at hl 2 rfl) ?_
        refine lv_if_lt (tgt := 93) C.1 C.2.1 dX5_findValues_29 (by decide) (fun c15 => ?_) (fun c15 => ?_)
        · rw [if_pos c15] at hh
          exact B93 _ _ _ _ _ _  hm hs (lv_sub hl [1, 2] rfl) hh
        · rw [if_neg c15] at hh
          refine lv_iload_n C.1 C.2.1 dX5_findValues_32 rfl (lv_at hl 2 rfl) ?_
          refine lv_iload_n C.1 C.2.1 dX5_findValues_33 rfl (lv_at hl 1 rfl) ?_
          refine lv_icmp_ge (tgt := 93) C.1 C.2.1 dX5_findValues_34 (by decide) (fun c14 => ?_) (fun c14 => ?_)
          · rw [if_pos c14] at hh
            exact B93 _ _ _ _ _ _  hm hs (lv_sub hl [1, 2] rfl) hh
          · rw [if_neg c14] at hh
            refine lv_iload_n C.1 C.2.1 dX5_findValues_37 rfl (lv_at hl 2 rfl) ?_
            refine lv_bipush (v := 6) C.1 C.2.1 dX5_findValues_38 (by decide) ?_
            refine lv_icmp_ge (tgt := 93) C.1 C.2.1 dX5_findValues_40 (by decide) (fun c13 => ?_) (fun c13 => ?_)
            · rw [if_pos c13] at hh
              exact B93 _ _ _ _ _ _  hm hs (lv_sub hl [1, 2] rfl) hh
            · rw [if_neg c13] at hh
              refine r_aload_n C.1 C.2.1 dX5_findValues_43 rfl (lv_at hl 0 rfl) ?_
              refine r_getR C hm flX5_25 dX5_findValues_44 hh (fun x2 _ hh => ?_)
              refine lv_iload_n C.1 C.2.1 dX5_findValues_47 rfl (lv_at hl 2 rfl) ?_
              refine r_ald C hm dX5_findValues_48 hh (fun x3 _ hh => ?_)
              refine lv_istore (i := 5) (lv' := [(5, .int x3), (0, va_rf (some a0)), (2, .int v2), (3, .int v3), (4, .int v4)]) C.1 C.2.1 dX5_findValues_49 hl (by decide) rfl (fun ls hl => ?_)
              refine r_aload_n C.1 C.2.1 dX5_findValues_51 rfl (lv_at hl 1 rfl) ?_
              refine lv_iload C.1 C.2.1 dX5_findValues_52 (lv_at hl 0 rfl) ?_
              refine r_cV C X hm hs mlX5_108 mvX5_108 hh (vv := fun r => some (.int r.1)) (hp := fun r => r.2) (fun b r hg => c_X5_raise l G h b _ r hg) rfl rfl (Nat.le_of_ble_eq_true rfl) (Nat.le_of_ble_eq_true rfl) (Nat.le_of_ble_eq_true rfl) hl.1 dX5_findValues_54 (fun b5 r4 H locs hgr4 hh hm hs => ?_)
              refine W.eq (g2 := F0 m 57 ls [.int r4.1]) rfl ?_
              refine lv_if_ne (tgt := 66) C.1 C.2.1 dX5_findValues_57 (by decide) (fun c12 => ?_) (fun c12 => ?_)
              · rw [if_neg c12] at hh
                refine r_aload_n C.1 C.2.1 dX5_findValues_66 rfl (lv_at hl 1 rfl) ?_
                refine lv_iload_n C.1 C.2.1 dX5_findValues_67 rfl (lv_at hl 3 rfl) ?_
                refine r_cV C X hm hs mlX5_104 mvX5_104 hh (vv := fun r => some (.int r)) (hp := fun r => r4.2) (fun b r hg => c_X5_holdsRipe l G r4.2 b _ r hg) rfl rfl (Nat.le_of_ble_eq_true rfl) (Nat.le_of_ble_eq_true rfl) (Nat.le_of_ble_eq_true rfl) hl.1 dX5_findValues_68 (fun b7 r6 H locs hgr6 hh hm hs => ?_)
                refine W.eq (g2 := F0 m 71 ls [.int r6]) rfl ?_
                refine lv_if_ne (tgt := 87) C.1 C.2.1 dX5_findValues_71 (by decide) (fun c11 => ?_) (fun c11 => ?_)
                · rw [if_neg c11] at hh
                  exact B87 _ ih _ _ _ _ _ _ _ _  hm hs (lv_sub hl [1, 2, 3, 4] rfl) hh
                · rw [if_pos c11] at hh
                  refine lv_iinc (v := (v3 + 1)) (lv' := [(3, .int (v3 + 1)), (5, .int x3), (0, va_rf (some a0)), (2, .int v2), (4, .int v4)]) C.1 C.2.1 dX5_findValues_74 hl (k := 3) rfl rfl (by decide) rfl (fun ls hl => ?_)
                  refine lv_iload_n C.1 C.2.1 dX5_findValues_77 rfl (lv_at hl 0 rfl) ?_
                  refine lv_iload_n C.1 C.2.1 dX5_findValues_78 rfl (lv_at hl 3 rfl) ?_
                  refine lv_icmp_ge (tgt := 87) C.1 C.2.1 dX5_findValues_79 (by decide) (fun c10 => ?_) (fun c10 => ?_)
                  · rw [if_pos c10] at hh
                    exact B87 _ ih _ _ _ _ _ _ _ _  hm hs (lv_sub hl [2, 3, 0, 4] rfl) hh
                  · rw [if_neg c10] at hh
                    refine r_aload_n C.1 C.2.1 dX5_findValues_82 rfl (lv_at hl 2 rfl) ?_
                    refine lv_iload_n C.1 C.2.1 dX5_findValues_83 rfl (lv_at hl 0 rfl) ?_
                    refine r_cV C X hm hs mlX5_111 mvX5_111 hh (vv := fun r => none) (hp := fun r => r) (fun b r hg => c_X5_startAt l G r4.2 b _ r hg) rfl rfl (Nat.le_of_ble_eq_true rfl) (Nat.le_of_ble_eq_true rfl) (Nat.le_of_ble_eq_true rfl) hl.1 dX5_findValues_84 (fun b9 r8 H locs hgr8 hh hm hs => ?_)
                    refine W.eq (g2 := F0 m 87 ls []) rfl ?_
                    exact B87 _ ih _ _ _ _ _ _ _ _  hm hs (lv_sub hl [2, 3, 0, 4] rfl) hh
              · rw [if_pos c12] at hh
                refine lv_iinc (v := (v3 + (-1))) (lv' := [(3, .int (v3 + (-1))), (5, .int x3), (0, va_rf (some a0)), (2, .int v2), (4, .int v4)]) C.1 C.2.1 dX5_findValues_60 hl (k := 3) rfl rfl (by decide) rfl (fun ls hl => ?_)
                refine lv_goto (tgt := 87) C.1 C.2.1 dX5_findValues_63 (by decide) ?_
                exact B87 _ ih _ _ _ _ _ _ _ _  hm hs (lv_sub hl [2, 3, 0, 4] rfl) hh
  unfold mX5_findValues at hh
  refine r_aload_n C.1 C.2.1 dX5_findValues_0 rfl (lv_at hl 0 rfl) ?_
  refine lv_iload_n C.1 C.2.1 dX5_findValues_1 rfl (lv_at hl 1 rfl) ?_
  refine r_cV C X hm hs mlX5_101 mvX5_101 hh (vv := fun r => some (.int r.1)) (hp := fun r => r.2) (fun b r hg => c_X5_prepareTrial l G h b _ r hg) rfl rfl (Nat.le_of_ble_eq_true rfl) (Nat.le_of_ble_eq_true rfl) (Nat.le_of_ble_eq_true rfl) hl.1 dX5_findValues_2 (fun b18 r17 H locs hgr17 hh hm hs => ?_)
  refine W.eq (g2 := F0 m 5 ls [.int r17.1]) rfl ?_
  refine lv_istore_n (i := 2) (lv' := [(2, .int r17.1), (0, va_rf (some a0)), (1, .int a1)]) C.1 C.2.1 dX5_findValues_5 rfl hl (by decide) rfl (fun ls hl => ?_)
  refine r_aload_n C.1 C.2.1 dX5_findValues_6 rfl (lv_at hl 1 rfl) ?_
  refine lv_iconst (v := (-1)) C.1 C.2.1 dX5_findValues_7 (by decide) ?_
  refine r_cV C X hm hs mlX5_104 mvX5_104 hh (vv := fun r => some (.int r)) (hp := fun r => r17.2) (fun b r hg => c_X5_holdsRipe l G r17.2 b _ r hg) rfl rfl (Nat.le_of_ble_eq_true rfl) (Nat.le_of_ble_eq_true rfl) (Nat.le_of_ble_eq_true rfl) hl.1 dX5_findValues_8 (fun b20 r19 H locs hgr19 hh hm hs => ?_)
  refine W.eq (g2 := F0 m 11 ls [.int r19]) rfl ?_
  refine lv_if_eq (tgt := 16) C.1 C.2.1 dX5_findValues_11 (by decide) (fun c21 => ?_) (fun c21 => ?_)
  · rw [if_pos c21] at hh
    refine lv_iconst (v := 0) C.1 C.2.1 dX5_findValues_16 (by decide) ?_
    refine lv_istore_n (i := 3) (lv' := [(3, .int 0), (2, .int r17.1), (0, va_rf (some a0)), (1, .int a1)]) C.1 C.2.1 dX5_findValues_17 rfl hl (by decide) rfl (fun ls hl => ?_)
    refine lv_iconst (v := 0) C.1 C.2.1 dX5_findValues_18 (by decide) ?_
    refine lv_istore (i := 4) (lv' := [(4, .int 0), (3, .int 0), (2, .int r17.1), (0, va_rf (some a0)), (1, .int a1)]) C.1 C.2.1 dX5_findValues_19 hl (by decide) rfl (fun ls hl => ?_)
    exact B21 FUEL _ _ _ _ _ _ _ _  hm hs (lv_sub hl [3, 2, 1, 0] rfl) hh
  · rw [if_neg c21] at hh
    refine lv_iconst (v := 0) C.1 C.2.1 dX5_findValues_14 (by decide) ?_
    exact r_bretW hQ C hr hm hs (by decide) hh dX5_findValues_15
def mX5_isBetter (h : MHp) (a0 : Nat) (a1 : Int32) (a2 : Int32) : Option (Int32) := (gR 6 0 h (some a0)).bind fun x1 => (gR 10 5 h x1).bind fun x2 => (rcv 2 h x2).bind fun b4 => (mX1_costOf h b4 a1).bind fun r3 => (gR 6 0 h (some a0)).bind fun x5 => (gR 10 5 h x5).bind fun x6 => (rcv 2 h x6).bind fun b8 => (mX1_costOf h b8 a2).bind fun r7 => (if (r3 - r7) = 0 then (mJ6_bitCount_0f7a4 h a1).bind fun r9 => (mJ6_bitCount_0f7a4 h a2).bind fun r10 => (if (r9 - r10) = 0 then (if ((a1 &&& (a1 ^^^ a2)) &&& (-(a1 ^^^ a2))) = 0 then some 0 else some 1) else (if 0 ≤ (r9 - r10) then some 0 else some 1)) else (if 0 ≤ (r3 - r7) then some 0 else some 1))
set_option maxRecDepth 100000 in
set_option maxHeartbeats 4000000 in
theorem c_X5_isBetter (l : Launch) (G : Env0) (h : MHp) (a0 : Nat) (a1 : Int32) (a2 : Int32) (res : Int32) (hh : mX5_isBetter h a0 a1 a2 = some res) : MG l yX5_isBetter cX5_isBetter 6 (some .boolean) 1 23 0 0 G h [.ref a0, .int a1, .int a2] (some (.int res)) (h) := by
  refine MG_of (own := RX5) (plainFor_of_name (by decide)) rfl (Nat.le_of_ble_eq_true rfl) ?_
  intro p e s m args below meth c Q ls hQ C X hin hm hs hl hr
  have hl : lv_has ls 6 [(0, va_rf (some a0)), (1, .int a1), (2, .int a2)] := hl
  unfold mX5_isBetter at hh
  refine r_aload_n C.1 C.2.1 dX5_isBetter_0 rfl (lv_at hl 0 rfl) ?_
  refine r_getR C hm flX5_34 dX5_isBetter_1 hh (fun x1 _ hh => ?_)
  refine r_getR C hm flX5_67 dX5_isBetter_4 hh (fun x2 _ hh => ?_)
  refine lv_iload_n C.1 C.2.1 dX5_isBetter_7 rfl (lv_at hl 1 rfl) ?_
  refine r_cV C X hm hs mlX5_92 mvX5_92 hh (vv := fun r => some (.int r)) (hp := fun r => h) (fun b r hg => c_X1_costOf l G h b _ r hg) rfl rfl (Nat.le_of_ble_eq_true rfl) (Nat.le_of_ble_eq_true rfl) (Nat.le_of_ble_eq_true rfl) hl.1 dX5_isBetter_8 (fun b4 r3 H locs hgr3 hh hm hs => ?_)
  refine W.eq (g2 := F0 m 11 ls [.int r3]) rfl ?_
  refine r_aload_n C.1 C.2.1 dX5_isBetter_11 rfl (lv_at hl 0 rfl) ?_
  refine r_getR C hm flX5_34 dX5_isBetter_12 hh (fun x5 _ hh => ?_)
  refine r_getR C hm flX5_67 dX5_isBetter_15 hh (fun x6 _ hh => ?_)
  refine lv_iload_n C.1 C.2.1 dX5_isBetter_18 rfl (lv_at hl 2 rfl) ?_
  refine r_cV C X hm hs mlX5_92 mvX5_92 hh (vv := fun r => some (.int r)) (hp := fun r => h) (fun b r hg => c_X1_costOf l G h b _ r hg) rfl rfl (Nat.le_of_ble_eq_true rfl) (Nat.le_of_ble_eq_true rfl) (Nat.le_of_ble_eq_true rfl) hl.1 dX5_isBetter_19 (fun b8 r7 H locs hgr7 hh hm hs => ?_)
  refine W.eq (g2 := F0 m 22 ls [.int r7, .int r3]) rfl ?_
  refine lv_isub C.1 C.2.1 dX5_isBetter_22 ?_
  refine lv_istore_n (i := 3) (lv' := [(3, .int (r3 - r7)), (0, va_rf (some a0)), (1, .int a1), (2, .int a2)]) C.1 C.2.1 dX5_isBetter_23 rfl hl (by decide) rfl (fun ls hl => ?_)
  refine lv_iload_n C.1 C.2.1 dX5_isBetter_24 rfl (lv_at hl 0 rfl) ?_
  refine lv_if_eq (tgt := 38) C.1 C.2.1 dX5_isBetter_25 (by decide) (fun c15 => ?_) (fun c15 => ?_)
  · rw [if_pos c15] at hh
    refine lv_iload_n C.1 C.2.1 dX5_isBetter_38 rfl (lv_at hl 2 rfl) ?_
    refine r_cS C X hm hs mlX5_96 msX5_96 hh (vv := fun r => some (.int r)) (hp := fun r => h) (fun r hg => c_J6_bitCount_0f7a4 l G h _ r hg) rfl rfl (Nat.le_of_ble_eq_true rfl) (Nat.le_of_ble_eq_true rfl) (Nat.le_of_ble_eq_true rfl) hl.1 dX5_isBetter_39 (fun r9 H locs hgr9 hh hm hs => ?_)
    refine W.eq (g2 := F0 m 42 ls [.int r9]) rfl ?_
    refine lv_iload_n C.1 C.2.1 dX5_isBetter_42 rfl (lv_at hl 3 rfl) ?_
    refine r_cS C X hm hs mlX5_96 msX5_96 hh (vv := fun r => some (.int r)) (hp := fun r => h) (fun r hg => c_J6_bitCount_0f7a4 l G h _ r hg) rfl rfl (Nat.le_of_ble_eq_true rfl) (Nat.le_of_ble_eq_true rfl) (Nat.le_of_ble_eq_true rfl) hl.1 dX5_isBetter_43 (fun r10 H locs hgr10 hh hm hs => ?_)
    refine W.eq (g2 := F0 m 46 ls [.int r10, .int r9]) rfl ?_
    refine lv_isub C.1 C.2.1 dX5_isBetter_46 ?_
    refine lv_istore (i := 4) (lv' := [(4, .int (r9 - r10)), (3, .int (r3 - r7)), (0, va_rf (some a0)), (1, .int a1), (2, .int a2)]) C.1 C.2.1 dX5_isBetter_47 hl (by decide) rfl (fun ls hl => ?_)
    refine lv_iload C.1 C.2.1 dX5_isBetter_49 (lv_at hl 0 rfl) ?_
    refine lv_if_eq (tgt := 65) C.1 C.2.1 dX5_isBetter_51 (by decide) (fun c13 => ?_) (fun c13 => ?_)
    · rw [if_pos c13] at hh
      refine lv_iload_n C.1 C.2.1 dX5_isBetter_65 rfl (lv_at hl 3 rfl) ?_
      refine lv_iload_n C.1 C.2.1 dX5_isBetter_66 rfl (lv_at hl 4 rfl) ?_
      refine lv_ixor C.1 C.2.1 dX5_isBetter_67 ?_
      refine lv_istore (i := 5) (lv' := [(5, .int (a1 ^^^ a2)), (4, .int (r9 - r10)), (3, .int (r3 - r7)), (0, va_rf (some a0)), (1, .int a1), (2, .int a2)]) C.1 C.2.1 dX5_isBetter_68 hl (by decide) rfl (fun ls hl => ?_)
      refine lv_iload_n C.1 C.2.1 dX5_isBetter_70 rfl (lv_at hl 4 rfl) ?_
      refine lv_iload C.1 C.2.1 dX5_isBetter_71 (lv_at hl 0 rfl) ?_
      refine lv_iand C.1 C.2.1 dX5_isBetter_73 ?_
      refine lv_iload C.1 C.2.1 dX5_isBetter_74 (lv_at hl 0 rfl) ?_
      refine lv_ineg C.1 C.2.1 dX5_isBetter_76 ?_
      refine lv_iand C.1 C.2.1 dX5_isBetter_77 ?_
      refine lv_if_eq (tgt := 85) C.1 C.2.1 dX5_isBetter_78 (by decide) (fun c11 => ?_) (fun c11 => ?_)
      · rw [if_pos c11] at hh
        refine lv_iconst (v := 0) C.1 C.2.1 dX5_isBetter_85 (by decide) ?_
        exact r_bretP hQ C hr hm hs (by decide) hh dX5_isBetter_86
      · rw [if_neg c11] at hh
        refine lv_iconst (v := 1) C.1 C.2.1 dX5_isBetter_81 (by decide) ?_
        refine lv_goto (tgt := 86) C.1 C.2.1 dX5_isBetter_82 (by decide) ?_
        exact r_bretP hQ C hr hm hs (by decide) hh dX5_isBetter_86
    · rw [if_neg c13] at hh
      refine lv_iload C.1 C.2.1 dX5_isBetter_54 (lv_at hl 0 rfl) ?_
      refine lv_if_ge (tgt := 63) C.1 C.2.1 dX5_isBetter_56 (by decide) (fun c12 => ?_) (fun c12 => ?_)
      · rw [if_pos c12] at hh
        refine lv_iconst (v := 0) C.1 C.2.1 dX5_isBetter_63 (by decide) ?_
        exact r_bretP hQ C hr hm hs (by decide) hh dX5_isBetter_64
      · rw [if_neg c12] at hh
        refine lv_iconst (v := 1) C.1 C.2.1 dX5_isBetter_59 (by decide) ?_
        refine lv_goto (tgt := 64) C.1 C.2.1 dX5_isBetter_60 (by decide) ?_
        exact r_bretP hQ C hr hm hs (by decide) hh dX5_isBetter_64
  · rw [if_neg c15] at hh
    refine lv_iload_n C.1 C.2.1 dX5_isBetter_28 rfl (lv_at hl 0 rfl) ?_
    refine lv_if_ge (tgt := 36) C.1 C.2.1 dX5_isBetter_29 (by decide) (fun c14 => ?_) (fun c14 => ?_)
    · rw [if_pos c14] at hh
      refine lv_iconst (v := 0) C.1 C.2.1 dX5_isBetter_36 (by decide) ?_
      exact r_bretP hQ C hr hm hs (by decide) hh dX5_isBetter_37
    · rw [if_neg c14] at hh
      refine lv_iconst (v := 1) C.1 C.2.1 dX5_isBetter_32 (by decide) ?_
      refine lv_goto (tgt := 37) C.1 C.2.1 dX5_isBetter_33 (by decide) ?_
      exact r_bretP hQ C hr hm hs (by decide) hh dX5_isBetter_37
def mX5_cheapestSet_b84 (k46 : MHp → Nat → Int32 → Int32 → Int32 → Option (Int32 × MHp)) (h : MHp) (a0 : Nat) (v1 : Int32) (v2 : Int32) (v3 : Int32) : Option (Int32 × MHp) := k46 h a0 v1 v2 (v3 + 1)
def mX5_cheapestSet_l46 : Nat → MHp → Nat → Int32 → Int32 → Int32 → Option (Int32 × MHp)
  | 0, _, _, _, _, _ => none
  | n + 1, h, a0, v1, v2, v3 => (if v1 ≤ v3 then some (v2, h) else (if 64 ≤ v3 then some (v2, h) else (if (v3 &&& (v1 ^^^ (-1))) = 0 then (rcv 6 h (some a0)).bind fun b2 => (mX5_isBetter h b2 v3 v2).bind fun r1 => (if r1 = 0 then mX5_cheapestSet_b84 (mX5_cheapestSet_l46 n) h a0 v1 v2 v3 else (rcv 6 h (some a0)).bind fun b4 => (mX5_findValues h b4 v3).bind fun r3 => (if r3.1 = 0 then mX5_cheapestSet_b84 (mX5_cheapestSet_l46 n) r3.2 a0 v1 v2 v3 else mX5_cheapestSet_b84 (mX5_cheapestSet_l46 n) r3.2 a0 v1 v3 v3)) else mX5_cheapestSet_b84 (mX5_cheapestSet_l46 n) h a0 v1 v2 v3)))
def mX5_cheapestSet (h : MHp) (a0 : Nat) : Option (Int32 × MHp) := (gR 6 0 h (some a0)).bind fun x10 => (gR 10 5 h x10).bind fun x11 => (rcv 2 h x11).bind fun b13 => (mX1_allFields h b13).bind fun r12 => (gR 6 0 h (some a0)).bind fun x14 => (gR 10 5 h x14).bind fun x15 => (gR 6 2 h (some a0)).bind fun x16 => (rcv 2 h x15).bind fun b18 => (mX1_gapsOf h b18 x16).bind fun r17 => (if (r12 &&& (r17 ^^^ (-1))) = 0 then some (0, h) else (rcv 6 h (some a0)).bind fun b20 => (mX5_findValues h b20 (r12 &&& (r17 ^^^ (-1)))).bind fun r19 => (if r19.1 = 0 then some (0, r19.2) else mX5_cheapestSet_l46 FUEL r19.2 a0 (r12 &&& (r17 ^^^ (-1))) (r12 &&& (r17 ^^^ (-1))) 1))
set_option maxRecDepth 100000 in
set_option maxHeartbeats 4000000 in
theorem c_X5_cheapestSet (l : Launch) (G : Env0) (h : MHp) (a0 : Nat) (res : Int32 × MHp) (hh : mX5_cheapestSet h a0 = some res) : MG l yX5_cheapestSet cX5_cheapestSet 4 (some .int) 4 93 0 0 G h [.ref a0] (some (.int res.1)) (res.2) := by
  refine MG_of (own := RX5) (plainFor_of_name (by decide)) rfl (Nat.le_of_ble_eq_true rfl) ?_
  intro p e s m args below meth c Q ls hQ C X hin hm hs hl hr
  have hl : lv_has ls 4 [(0, va_rf (some a0))] := hl
  have B84 : ∀ (k46 : MHp → Nat → Int32 → Int32 → Int32 → Option (Int32 × MHp)), (∀ (h : MHp) (H : Heap) (locs : List Loc) (ls : Array Slot) (a0 : Nat) (v1 : Int32) (v2 : Int32) (v3 : Int32) , mHp (gD G) (gC G) (gB G) h H → va_S (fun q => gB G ≤ q) s.heap H locs → lv_has ls 4 [(0, va_rf (some a0)), (1, .int v1), (2, .int v2), (3, .int v3)] → k46 h a0 v1 v2 v3 = some res → W p l e ({ frames := 4, cells := 0, slots := 0, locals := 93 }) s m args below meth c H locs 0 0 Q (F0 m 46 ls [])) → ∀ (h : MHp) (H : Heap) (locs : List Loc) (ls : Array Slot) (a0 : Nat) (v1 : Int32) (v2 : Int32) (v3 : Int32) , mHp (gD G) (gC G) (gB G) h H → va_S (fun q => gB G ≤ q) s.heap H locs → lv_has ls 4 [(0, va_rf (some a0)), (1, .int v1), (2, .int v2), (3, .int v3)] → mX5_cheapestSet_b84 k46 h a0 v1 v2 v3 = some res → W p l e ({ frames := 4, cells := 0, slots := 0, locals := 93 }) s m args below meth c H locs 0 0 Q (F0 m 84 ls []) := by
    intro k46 hk46 h H locs ls a0 v1 v2 v3 hm hs hl hh
    unfold mX5_cheapestSet_b84 at hh
    refine lv_iinc (v := (v3 + 1)) (lv' := [(3, .int (v3 + 1)), (0, va_rf (some a0)), (1, .int v1), (2, .int v2)]) C.1 C.2.1 dX5_cheapestSet_84 hl (k := 3) rfl rfl (by decide) rfl (fun ls hl => ?_)
    refine lv_goto (tgt := 46) C.1 C.2.1 dX5_cheapestSet_87 (by decide) ?_
    exact hk46 _ _ _ _ _ _ _ _  hm hs (lv_sub hl [1, 2, 3, 0] rfl) hh
  have B46 : ∀ n : Nat, ∀ (h : MHp) (H : Heap) (locs : List Loc) (ls : Array Slot) (a0 : Nat) (v1 : Int32) (v2 : Int32) (v3 : Int32) , mHp (gD G) (gC G) (gB G) h H → va_S (fun q => gB G ≤ q) s.heap H locs → lv_has ls 4 [(0, va_rf (some a0)), (1, .int v1), (2, .int v2), (3, .int v3)] → mX5_cheapestSet_l46 n h a0 v1 v2 v3 = some res → W p l e ({ frames := 4, cells := 0, slots := 0, locals := 93 }) s m args below meth c H locs 0 0 Q (F0 m 46 ls []) := by
    intro n
    induction n with
    | zero => intro h H locs ls a0 v1 v2 v3 hm hs hl hh; cases hh
    | succ n ih =>
      intro h H locs ls a0 v1 v2 v3 hm hs hl hh
      unfold mX5_cheapestSet_l46 at hh
      refine lv_iload_n C.1 C.2.1 dX5_cheapestSet_46 rfl (lv_at hl 3 rfl) ?_
      refine lv_iload_n C.1 C.2.1 dX5_cheapestSet_47 rfl (lv_at hl 1 rfl) ?_
      refine lv_icmp_ge (tgt := 90) C.1 C.2.1 dX5_cheapestSet_48 (by decide) (fun c9 => ?_) (fun c9 => ?_)
      · rw [if_pos c9] at hh
        refine lv_iload_n C.1 C.2.1 dX5_cheapestSet_90 rfl (lv_at hl 2 rfl) ?_
        exact r_iretW hQ C hr hm hs hh dX5_cheapestSet_91
      · rw [if_neg c9] at hh
        refine lv_iload_n C.1 C.2.1 dX5_cheapestSet_51 rfl (lv_at hl 3 rfl) ?_
        refine lv_bipush (v := 64) C.1 C.2.1 dX5_cheapestSet_52 (by decide) ?_
        refine lv_icmp_ge (tgt := 90) C.1 C.2.1 dX5_cheapestSet_54 (by decide) (fun c8 => ?_) (fun c8 => ?_)
        · rw [if_pos c8] at hh
          refine lv_iload_n C.1 C.2.1 dX5_cheapestSet_90 rfl (lv_at hl 2 rfl) ?_
          exact r_iretW hQ C hr hm hs hh dX5_cheapestSet_91
        · rw [if_neg c8] at hh
          refine lv_iload_n C.1 C.2.1 dX5_cheapestSet_57 rfl (lv_at hl 3 rfl) ?_
          refine lv_iload_n C.1 C.2.1 dX5_cheapestSet_58 rfl (lv_at hl 1 rfl) ?_
          refine lv_iconst (v := (-1)) C.1 C.2.1 dX5_cheapestSet_59 (by decide) ?_
          refine lv_ixor C.1 C.2.1 dX5_cheapestSet_60 ?_
          refine lv_iand C.1 C.2.1 dX5_cheapestSet_61 ?_
          refine lv_if_ne (tgt := 84) C.1 C.2.1 dX5_cheapestSet_62 (by decide) (fun c7 => ?_) (fun c7 => ?_)
          · rw [if_neg c7] at hh
            exact B84 _ ih _ _ _ _ _ _ _ _  hm hs (lv_sub hl [0, 1, 2, 3] rfl) hh
          · rw [if_pos c7] at hh
            refine r_aload_n C.1 C.2.1 dX5_cheapestSet_65 rfl (lv_at hl 0 rfl) ?_
            refine lv_iload_n C.1 C.2.1 dX5_cheapestSet_66 rfl (lv_at hl 3 rfl) ?_
            refine lv_iload_n C.1 C.2.1 dX5_cheapestSet_67 rfl (lv_at hl 2 rfl) ?_
            refine r_cV C X hm hs mlX5_88 mvX5_88 hh (vv := fun r => some (.int r)) (hp := fun r => h) (fun b r hg => c_X5_isBetter l G h b _ _ r hg) rfl rfl (Nat.le_of_ble_eq_true rfl) (Nat.le_of_ble_eq_true rfl) (Nat.le_of_ble_eq_true rfl) hl.1 dX5_cheapestSet_68 (fun b2 r1 H locs hgr1 hh hm hs => ?_)
            refine W.eq (g2 := F0 m 71 ls [.int r1]) rfl ?_
            refine lv_if_eq (tgt := 84) C.1 C.2.1 dX5_cheapestSet_71 (by decide) (fun c6 => ?_) (fun c6 => ?_)
            · rw [if_pos c6] at hh
              exact B84 _ ih _ _ _ _ _ _ _ _  hm hs (lv_sub hl [0, 1, 2, 3] rfl) hh
            · rw [if_neg c6] at hh
              refine r_aload_n C.1 C.2.1 dX5_cheapestSet_74 rfl (lv_at hl 0 rfl) ?_
              refine lv_iload_n C.1 C.2.1 dX5_cheapestSet_75 rfl (lv_at hl 3 rfl) ?_
              refine r_cV C X hm hs mlX5_55 mvX5_55 hh (vv := fun r => some (.int r.1)) (hp := fun r => r.2) (fun b r hg => c_X5_findValues l G h b _ r hg) rfl rfl (Nat.le_of_ble_eq_true rfl) (Nat.le_of_ble_eq_true rfl) (Nat.le_of_ble_eq_true rfl) hl.1 dX5_cheapestSet_76 (fun b4 r3 H locs hgr3 hh hm hs => ?_)
              refine W.eq (g2 := F0 m 79 ls [.int r3.1]) rfl ?_
              refine lv_if_eq (tgt := 84) C.1 C.2.1 dX5_cheapestSet_79 (by decide) (fun c5 => ?_) (fun c5 => ?_)
              · rw [if_pos c5] at hh
                exact B84 _ ih _ _ _ _ _ _ _ _  hm hs (lv_sub hl [0, 1, 2, 3] rfl) hh
              · rw [if_neg c5] at hh
                refine lv_iload_n C.1 C.2.1 dX5_cheapestSet_82 rfl (lv_at hl 3 rfl) ?_
                refine lv_istore_n (i := 2) (lv' := [(2, .int v3), (0, va_rf (some a0)), (1, .int v1), (3, .int v3)]) C.1 C.2.1 dX5_cheapestSet_83 rfl hl (by decide) rfl (fun ls hl => ?_)
                exact B84 _ ih _ _ _ _ _ _ _ _  hm hs (lv_sub hl [1, 2, 0, 3] rfl) hh
  unfold mX5_cheapestSet at hh
  refine r_aload_n C.1 C.2.1 dX5_cheapestSet_0 rfl (lv_at hl 0 rfl) ?_
  refine r_getR C hm flX5_34 dX5_cheapestSet_1 hh (fun x10 _ hh => ?_)
  refine r_getR C hm flX5_67 dX5_cheapestSet_4 hh (fun x11 _ hh => ?_)
  refine r_cV C X hm hs mlX5_77 mvX5_77 hh (vv := fun r => some (.int r)) (hp := fun r => h) (fun b r hg => c_X1_allFields l G h b  r hg) rfl rfl (Nat.le_of_ble_eq_true rfl) (Nat.le_of_ble_eq_true rfl) (Nat.le_of_ble_eq_true rfl) hl.1 dX5_cheapestSet_7 (fun b13 r12 H locs hgr12 hh hm hs => ?_)
  refine W.eq (g2 := F0 m 10 ls [.int r12]) rfl ?_
  refine r_aload_n C.1 C.2.1 dX5_cheapestSet_10 rfl (lv_at hl 0 rfl) ?_
  refine r_getR C hm flX5_34 dX5_cheapestSet_11 hh (fun x14 _ hh => ?_)
  refine r_getR C hm flX5_67 dX5_cheapestSet_14 hh (fun x15 _ hh => ?_)
  refine r_aload_n C.1 C.2.1 dX5_cheapestSet_17 rfl (lv_at hl 0 rfl) ?_
  refine r_getR C hm flX5_15 dX5_cheapestSet_18 hh (fun x16 _ hh => ?_)
  refine r_cV C X hm hs mlX5_71 mvX5_71 hh (vv := fun r => some (.int r)) (hp := fun r => h) (fun b r hg => c_X1_gapsOf l G h b _ r hg) rfl rfl (Nat.le_of_ble_eq_true rfl) (Nat.le_of_ble_eq_true rfl) (Nat.le_of_ble_eq_true rfl) hl.1 dX5_cheapestSet_21 (fun b18 r17 H locs hgr17 hh hm hs => ?_)
  refine W.eq (g2 := F0 m 24 ls [.int r17, .int r12]) rfl ?_
  refine lv_iconst (v := (-1)) C.1 C.2.1 dX5_cheapestSet_24 (by decide) ?_
  refine lv_ixor C.1 C.2.1 dX5_cheapestSet_25 ?_
  refine lv_iand C.1 C.2.1 dX5_cheapestSet_26 ?_
  refine lv_istore_n (i := 1) (lv' := [(1, .int (r12 &&& (r17 ^^^ (-1)))), (0, va_rf (some a0))]) C.1 C.2.1 dX5_cheapestSet_27 rfl hl (by decide) (by simp [va_cat, vc_i, vc_l, vc_r]) (fun ls hl => ?_)
  refine lv_iload_n C.1 C.2.1 dX5_cheapestSet_28 rfl (lv_at hl 0 rfl) ?_
  refine lv_if_eq (tgt := 40) C.1 C.2.1 dX5_cheapestSet_29 (by decide) (fun c22 => ?_) (fun c22 => ?_)
  · rw [if_pos c22] at hh
    refine lv_iconst (v := 0) C.1 C.2.1 dX5_cheapestSet_40 (by decide) ?_
    exact r_iretW hQ C hr hm hs hh dX5_cheapestSet_41
  · rw [if_neg c22] at hh
    refine r_aload_n C.1 C.2.1 dX5_cheapestSet_32 rfl (lv_at hl 1 rfl) ?_
    refine lv_iload_n C.1 C.2.1 dX5_cheapestSet_33 rfl (lv_at hl 0 rfl) ?_
    refine r_cV C X hm hs mlX5_55 mvX5_55 hh (vv := fun r => some (.int r.1)) (hp := fun r => r.2) (fun b r hg => c_X5_findValues l G h b _ r hg) rfl rfl (Nat.le_of_ble_eq_true rfl) (Nat.le_of_ble_eq_true rfl) (Nat.le_of_ble_eq_true rfl) hl.1 dX5_cheapestSet_34 (fun b20 r19 H locs hgr19 hh hm hs => ?_)
    refine W.eq (g2 := F0 m 37 ls [.int r19.1]) rfl ?_
    refine lv_if_ne (tgt := 42) C.1 C.2.1 dX5_cheapestSet_37 (by decide) (fun c21 => ?_) (fun c21 => ?_)
    · rw [if_neg c21] at hh
      refine lv_iload_n C.1 C.2.1 dX5_cheapestSet_42 rfl (lv_at hl 0 rfl) ?_
      refine lv_istore_n (i := 2) (lv' := [(2, .int (r12 &&& (r17 ^^^ (-1)))), (1, .int (r12 &&& (r17 ^^^ (-1)))), (0, va_rf (some a0))]) C.1 C.2.1 dX5_cheapestSet_43 rfl hl (by decide) rfl (fun ls hl => ?_)
      refine lv_iconst (v := 1) C.1 C.2.1 dX5_cheapestSet_44 (by decide) ?_
      refine lv_istore_n (i := 3) (lv' := [(3, .int 1), (2, .int (r12 &&& (r17 ^^^ (-1)))), (1, .int (r12 &&& (r17 ^^^ (-1)))), (0, va_rf (some a0))]) C.1 C.2.1 dX5_cheapestSet_45 rfl hl (by decide) rfl (fun ls hl => ?_)
      exact B46 FUEL _ _ _ _ _ _ _ _  hm hs (lv_sub hl [3, 2, 1, 0] rfl) hh
    · rw [if_pos c21] at hh
      refine lv_iconst (v := 0) C.1 C.2.1 dX5_cheapestSet_40 (by decide) ?_
      exact r_iretW hQ C hr hm hs hh dX5_cheapestSet_41
def mX5_putTheirs_b36 (k2 : MHp → Nat → Int32 → Int32 → Option (MHp)) (h : MHp) (a0 : Nat) (v1 : Int32) (v2 : Int32) (t0 : Option Nat) (t1 : Int32) (t2 : Int32) : Option (MHp) := (pAI 20 h t0 t1 t2).bind fun h1 => k2 h1 a0 v1 (v2 + 1)
def mX5_putTheirs_l2 : Nat → MHp → Nat → Int32 → Int32 → Option (MHp)
  | 0, _, _, _, _ => none
  | n + 1, h, a0, v1, v2 => (if 6 ≤ v2 then some h else (gR 6 4 h (some a0)).bind fun x2 => (if ((v1 >>> (v2 &&& 31)) &&& 1) = 0 then (gR 6 2 h (some a0)).bind fun x3 => (gAI 20 h x3 v2).bind fun x4 => mX5_putTheirs_b36 (mX5_putTheirs_l2 n) h a0 v1 v2 x2 v2 x4 else (gR 6 3 h (some a0)).bind fun x5 => (gAI 20 h x5 v2).bind fun x6 => mX5_putTheirs_b36 (mX5_putTheirs_l2 n) h a0 v1 v2 x2 v2 x6))
def mX5_putTheirs (h : MHp) (a0 : Nat) (a1 : Int32) : Option (MHp) := mX5_putTheirs_l2 FUEL h a0 a1 0
set_option maxRecDepth 100000 in
set_option maxHeartbeats 4000000 in
theorem c_X5_putTheirs (l : Launch) (G : Env0) (h : MHp) (a0 : Nat) (a1 : Int32) (res : MHp) (hh : mX5_putTheirs h a0 a1 = some res) : MG l yX5_putTheirs cX5_putTheirs 3 none 0 0 0 0 G h [.ref a0, .int a1] (none) (res) := by
  refine MG_of (own := RX5) (plainFor_of_name (by decide)) rfl (Nat.le_of_ble_eq_true rfl) ?_
  intro p e s m args below meth c Q ls hQ C X hin hm hs hl hr
  have hl : lv_has ls 3 [(0, va_rf (some a0)), (1, .int a1)] := hl
  have B36 : ∀ (k2 : MHp → Nat → Int32 → Int32 → Option (MHp)), (∀ (h : MHp) (H : Heap) (locs : List Loc) (ls : Array Slot) (a0 : Nat) (v1 : Int32) (v2 : Int32) , mHp (gD G) (gC G) (gB G) h H → va_S (fun q => gB G ≤ q) s.heap H locs → lv_has ls 3 [(0, va_rf (some a0)), (1, .int v1), (2, .int v2)] → k2 h a0 v1 v2 = some res → W p l e ({ frames := 0, cells := 0, slots := 0, locals := 0 }) s m args below meth c H locs 0 0 Q (F0 m 2 ls [])) → ∀ (h : MHp) (H : Heap) (locs : List Loc) (ls : Array Slot) (a0 : Nat) (v1 : Int32) (v2 : Int32) (t0 : Option Nat) (t1 : Int32) (t2 : Int32) , mHp (gD G) (gC G) (gB G) h H → va_S (fun q => gB G ≤ q) s.heap H locs → lv_has ls 3 [(0, va_rf (some a0)), (1, .int v1), (2, .int v2)] → mX5_putTheirs_b36 k2 h a0 v1 v2 t0 t1 t2 = some res → W p l e ({ frames := 0, cells := 0, slots := 0, locals := 0 }) s m args below meth c H locs 0 0 Q (F0 m 36 ls [.int t2, .int t1, va_rf t0]) := by
    intro k2 hk2 h H locs ls a0 v1 v2 t0 t1 t2 hm hs hl hh
    unfold mX5_putTheirs_b36 at hh
    refine r_ast C hm hs dX5_putTheirs_36 hh (fun h1 H locs _ hh hm hs => ?_)
    refine lv_iinc (v := (v2 + 1)) (lv' := [(2, .int (v2 + 1)), (0, va_rf (some a0)), (1, .int v1)]) C.1 C.2.1 dX5_putTheirs_37 hl (k := 2) rfl rfl (by decide) rfl (fun ls hl => ?_)
    refine lv_goto (tgt := 2) C.1 C.2.1 dX5_putTheirs_40 (by decide) ?_
    exact hk2 _ _ _ _ _ _ _  hm hs (lv_sub hl [1, 2, 0] rfl) hh
  have B2 : ∀ n : Nat, ∀ (h : MHp) (H : Heap) (locs : List Loc) (ls : Array Slot) (a0 : Nat) (v1 : Int32) (v2 : Int32) , mHp (gD G) (gC G) (gB G) h H → va_S (fun q => gB G ≤ q) s.heap H locs → lv_has ls 3 [(0, va_rf (some a0)), (1, .int v1), (2, .int v2)] → mX5_putTheirs_l2 n h a0 v1 v2 = some res → W p l e ({ frames := 0, cells := 0, slots := 0, locals := 0 }) s m args below meth c H locs 0 0 Q (F0 m 2 ls []) := by
    intro n
    induction n with
    | zero => intro h H locs ls a0 v1 v2 hm hs hl hh; cases hh
    | succ n ih =>
      intro h H locs ls a0 v1 v2 hm hs hl hh
      unfold mX5_putTheirs_l2 at hh
      refine lv_iload_n C.1 C.2.1 dX5_putTheirs_2 rfl (lv_at hl 2 rfl) ?_
      refine lv_bipush (v := 6) C.1 C.2.1 dX5_putTheirs_3 (by decide) ?_
      refine lv_icmp_ge (tgt := 43) C.1 C.2.1 dX5_putTheirs_5 (by decide) (fun c8 => ?_) (fun c8 => ?_)
      · rw [if_pos c8] at hh
        exact r_vretW hQ C hr hm hs hh dX5_putTheirs_43
      · rw [if_neg c8] at hh
        refine r_aload_n C.1 C.2.1 dX5_putTheirs_8 rfl (lv_at hl 0 rfl) ?_
        refine r_getR C hm flX5_22 dX5_putTheirs_9 hh (fun x2 _ hh => ?_)
        refine lv_iload_n C.1 C.2.1 dX5_putTheirs_12 rfl (lv_at hl 2 rfl) ?_
        refine lv_iload_n C.1 C.2.1 dX5_putTheirs_13 rfl (lv_at hl 1 rfl) ?_
        refine lv_iload_n C.1 C.2.1 dX5_putTheirs_14 rfl (lv_at hl 2 rfl) ?_
        refine lv_ishr C.1 C.2.1 dX5_putTheirs_15 ?_
        refine lv_iconst (v := 1) C.1 C.2.1 dX5_putTheirs_16 (by decide) ?_
        refine lv_iand C.1 C.2.1 dX5_putTheirs_17 ?_
        refine lv_if_eq (tgt := 30) C.1 C.2.1 dX5_putTheirs_18 (by decide) (fun c7 => ?_) (fun c7 => ?_)
        · rw [if_pos c7] at hh
          refine r_aload_n C.1 C.2.1 dX5_putTheirs_30 rfl (lv_at hl 0 rfl) ?_
          refine r_getR C hm flX5_15 dX5_putTheirs_31 hh (fun x3 _ hh => ?_)
          refine lv_iload_n C.1 C.2.1 dX5_putTheirs_34 rfl (lv_at hl 2 rfl) ?_
          refine r_ald C hm dX5_putTheirs_35 hh (fun x4 _ hh => ?_)
          exact B36 _ ih _ _ _ _ _ _ _ _ _ _  hm hs (lv_sub hl [0, 1, 2] rfl) hh
        · rw [if_neg c7] at hh
          refine r_aload_n C.1 C.2.1 dX5_putTheirs_21 rfl (lv_at hl 0 rfl) ?_
          refine r_getR C hm flX5_19 dX5_putTheirs_22 hh (fun x5 _ hh => ?_)
          refine lv_iload_n C.1 C.2.1 dX5_putTheirs_25 rfl (lv_at hl 2 rfl) ?_
          refine r_ald C hm dX5_putTheirs_26 hh (fun x6 _ hh => ?_)
          refine lv_goto (tgt := 36) C.1 C.2.1 dX5_putTheirs_27 (by decide) ?_
          exact B36 _ ih _ _ _ _ _ _ _ _ _ _  hm hs (lv_sub hl [0, 1, 2] rfl) hh
  unfold mX5_putTheirs at hh
  refine lv_iconst (v := 0) C.1 C.2.1 dX5_putTheirs_0 (by decide) ?_
  refine lv_istore_n (i := 2) (lv' := [(2, .int 0), (0, va_rf (some a0)), (1, .int a1)]) C.1 C.2.1 dX5_putTheirs_1 rfl hl (by decide) rfl (fun ls hl => ?_)
  exact B2 FUEL _ _ _ _ _ _ _  hm hs (lv_sub hl [1, 2, 0] rfl) hh
def mX5_canGive (h : MHp) (a0 : Nat) (a1 : Int32) (a2 : Int32) (a3 : Int32) : Option (Int32 × MHp) := (gR 6 0 h (some a0)).bind fun x1 => (gR 6 0 h (some a0)).bind fun x2 => (gI 10 7 h x2).bind fun x3 => (rcv 10 h x1).bind fun b5 => (mX9_isThere h b5 a1 x3).bind fun r4 => (if r4 = 0 then some (0, h) else (gR 6 0 h (some a0)).bind fun x6 => (gR 6 0 h (some a0)).bind fun x7 => (gI 10 7 h x7).bind fun x8 => (gR 6 3 h (some a0)).bind fun x9 => (rcv 10 h x6).bind fun b11 => (mX9_load h b11 a1 x8 0 x9).bind fun r10 => (rcv 6 r10 (some a0)).bind fun b13 => (mX5_putTheirs r10 b13 a2).bind fun r12 => (gR 6 0 r12 (some a0)).bind fun x14 => (gR 10 5 r12 x14).bind fun x15 => (gR 6 3 r12 (some a0)).bind fun x16 => (rcv 2 r12 x15).bind fun b18 => (mX1_gapsOf r12 b18 x16).bind fun r17 => (if (r17 &&& a3) = 0 then (gR 6 0 r12 (some a0)).bind fun x19 => (gR 10 5 r12 x19).bind fun x20 => (gR 6 3 r12 (some a0)).bind fun x21 => (rcv 2 r12 x20).bind fun b23 => (mX1_ruleThatHolds r12 b23 x21).bind fun r22 => (if r22 = (-2) then (gR 6 0 r12 (some a0)).bind fun x24 => (gR 10 5 r12 x24).bind fun x25 => (gR 6 4 r12 (some a0)).bind fun x26 => (rcv 2 r12 x25).bind fun b28 => (mX1_ruleThatHolds r12 b28 x26).bind fun r27 => (if r27 = (-2) then some (1, r12) else some (0, r12)) else some (0, r12)) else some (0, r12)))
set_option maxRecDepth 100000 in
set_option maxHeartbeats 4000000 in
theorem c_X5_canGive (l : Launch) (G : Env0) (h : MHp) (a0 : Nat) (a1 : Int32) (a2 : Int32) (a3 : Int32) (res : Int32 × MHp) (hh : mX5_canGive h a0 a1 a2 a3 = some res) : MG l yX5_canGive cX5_canGive 4 (some .boolean) 3 73 0 0 G h [.ref a0, .int a1, .int a2, .int a3] (some (.int res.1)) (res.2) := by
  refine MG_of (own := RX5) (plainFor_of_name (by decide)) rfl (Nat.le_of_ble_eq_true rfl) ?_
  intro p e s m args below meth c Q ls hQ C X hin hm hs hl hr
  have hl : lv_has ls 4 [(0, va_rf (some a0)), (1, .int a1), (2, .int a2), (3, .int a3)] := hl
  unfold mX5_canGive at hh
  refine r_aload_n C.1 C.2.1 dX5_canGive_0 rfl (lv_at hl 0 rfl) ?_
  refine r_getR C hm flX5_34 dX5_canGive_1 hh (fun x1 _ hh => ?_)
  refine lv_iload_n C.1 C.2.1 dX5_canGive_4 rfl (lv_at hl 1 rfl) ?_
  refine r_aload_n C.1 C.2.1 dX5_canGive_5 rfl (lv_at hl 0 rfl) ?_
  refine r_getR C hm flX5_34 dX5_canGive_6 hh (fun x2 _ hh => ?_)
  refine r_getI C hm flX5_38 dX5_canGive_9 hh (fun x3 _ hh => ?_)
  refine r_cV C X hm hs mlX5_155 mvX5_155 hh (vv := fun r => some (.int r)) (hp := fun r => h) (fun b r hg => c_X9_isThere l G h b _ _ r hg) rfl rfl (Nat.le_of_ble_eq_true rfl) (Nat.le_of_ble_eq_true rfl) (Nat.le_of_ble_eq_true rfl) hl.1 dX5_canGive_12 (fun b5 r4 H locs hgr4 hh hm hs => ?_)
  refine W.eq (g2 := F0 m 15 ls [.int r4]) rfl ?_
  refine lv_if_ne (tgt := 20) C.1 C.2.1 dX5_canGive_15 (by decide) (fun c32 => ?_) (fun c32 => ?_)
  · rw [if_neg c32] at hh
    refine r_aload_n C.1 C.2.1 dX5_canGive_20 rfl (lv_at hl 0 rfl) ?_
    refine r_getR C hm flX5_34 dX5_canGive_21 hh (fun x6 _ hh => ?_)
    refine lv_iload_n C.1 C.2.1 dX5_canGive_24 rfl (lv_at hl 1 rfl) ?_
    refine r_aload_n C.1 C.2.1 dX5_canGive_25 rfl (lv_at hl 0 rfl) ?_
    refine r_getR C hm flX5_34 dX5_canGive_26 hh (fun x7 _ hh => ?_)
    refine r_getI C hm flX5_38 dX5_canGive_29 hh (fun x8 _ hh => ?_)
    refine lv_iconst (v := 0) C.1 C.2.1 dX5_canGive_32 (by decide) ?_
    refine r_aload_n C.1 C.2.1 dX5_canGive_33 rfl (lv_at hl 0 rfl) ?_
    refine r_getR C hm flX5_19 dX5_canGive_34 hh (fun x9 _ hh => ?_)
    refine r_cV C X hm hs mlX5_43 mvX5_43 hh (vv := fun r => none) (hp := fun r => r) (fun b r hg => c_X9_load l G h b _ _ _ _ r hg) rfl rfl (Nat.le_of_ble_eq_true rfl) (Nat.le_of_ble_eq_true rfl) (Nat.le_of_ble_eq_true rfl) hl.1 dX5_canGive_37 (fun b11 r10 H locs hgr10 hh hm hs => ?_)
    refine W.eq (g2 := F0 m 40 ls []) rfl ?_
    refine r_aload_n C.1 C.2.1 dX5_canGive_40 rfl (lv_at hl 0 rfl) ?_
    refine lv_iload_n C.1 C.2.1 dX5_canGive_41 rfl (lv_at hl 2 rfl) ?_
    refine r_cV C X hm hs mlX5_158 mvX5_158 hh (vv := fun r => none) (hp := fun r => r) (fun b r hg => c_X5_putTheirs l G r10 b _ r hg) rfl rfl (Nat.le_of_ble_eq_true rfl) (Nat.le_of_ble_eq_true rfl) (Nat.le_of_ble_eq_true rfl) hl.1 dX5_canGive_42 (fun b13 r12 H locs hgr12 hh hm hs => ?_)
    refine W.eq (g2 := F0 m 45 ls []) rfl ?_
    refine r_aload_n C.1 C.2.1 dX5_canGive_45 rfl (lv_at hl 0 rfl) ?_
    refine r_getR C hm flX5_34 dX5_canGive_46 hh (fun x14 _ hh => ?_)
    refine r_getR C hm flX5_67 dX5_canGive_49 hh (fun x15 _ hh => ?_)
    refine r_aload_n C.1 C.2.1 dX5_canGive_52 rfl (lv_at hl 0 rfl) ?_
    refine r_getR C hm flX5_19 dX5_canGive_53 hh (fun x16 _ hh => ?_)
    refine r_cV C X hm hs mlX5_71 mvX5_71 hh (vv := fun r => some (.int r)) (hp := fun r => r12) (fun b r hg => c_X1_gapsOf l G r12 b _ r hg) rfl rfl (Nat.le_of_ble_eq_true rfl) (Nat.le_of_ble_eq_true rfl) (Nat.le_of_ble_eq_true rfl) hl.1 dX5_canGive_56 (fun b18 r17 H locs hgr17 hh hm hs => ?_)
    refine W.eq (g2 := F0 m 59 ls [.int r17]) rfl ?_
    refine lv_iload_n C.1 C.2.1 dX5_canGive_59 rfl (lv_at hl 3 rfl) ?_
    refine lv_iand C.1 C.2.1 dX5_canGive_60 ?_
    refine lv_if_ne (tgt := 106) C.1 C.2.1 dX5_canGive_61 (by decide) (fun c31 => ?_) (fun c31 => ?_)
    · rw [if_neg c31] at hh
      refine lv_iconst (v := 0) C.1 C.2.1 dX5_canGive_106 (by decide) ?_
      exact r_bretW hQ C hr hm hs (by decide) hh dX5_canGive_107
    · rw [if_pos c31] at hh
      refine r_aload_n C.1 C.2.1 dX5_canGive_64 rfl (lv_at hl 0 rfl) ?_
      refine r_getR C hm flX5_34 dX5_canGive_65 hh (fun x19 _ hh => ?_)
      refine r_getR C hm flX5_67 dX5_canGive_68 hh (fun x20 _ hh => ?_)
      refine r_aload_n C.1 C.2.1 dX5_canGive_71 rfl (lv_at hl 0 rfl) ?_
      refine r_getR C hm flX5_19 dX5_canGive_72 hh (fun x21 _ hh => ?_)
      refine r_cV C X hm hs mlX5_161 mvX5_161 hh (vv := fun r => some (.int r)) (hp := fun r => r12) (fun b r hg => c_X1_ruleThatHolds l G r12 b _ r hg) rfl rfl (Nat.le_of_ble_eq_true rfl) (Nat.le_of_ble_eq_true rfl) (Nat.le_of_ble_eq_true rfl) hl.1 dX5_canGive_75 (fun b23 r22 H locs hgr22 hh hm hs => ?_)
      refine W.eq (g2 := F0 m 78 ls [.int r22]) rfl ?_
      refine lv_bipush (v := (-2)) C.1 C.2.1 dX5_canGive_78 (by decide) ?_
      refine lv_icmp_ne (tgt := 106) C.1 C.2.1 dX5_canGive_80 (by decide) (fun c30 => ?_) (fun c30 => ?_)
      · rw [if_neg c30] at hh
        refine lv_iconst (v := 0) C.1 C.2.1 dX5_canGive_106 (by decide) ?_
        exact r_bretW hQ C hr hm hs (by decide) hh dX5_canGive_107
      · rw [if_pos c30] at hh
        refine r_aload_n C.1 C.2.1 dX5_canGive_83 rfl (lv_at hl 0 rfl) ?_
        refine r_getR C hm flX5_34 dX5_canGive_84 hh (fun x24 _ hh => ?_)
        refine r_getR C hm flX5_67 dX5_canGive_87 hh (fun x25 _ hh => ?_)
        refine r_aload_n C.1 C.2.1 dX5_canGive_90 rfl (lv_at hl 0 rfl) ?_
        refine r_getR C hm flX5_22 dX5_canGive_91 hh (fun x26 _ hh => ?_)
        refine r_cV C X hm hs mlX5_161 mvX5_161 hh (vv := fun r => some (.int r)) (hp := fun r => r12) (fun b r hg => c_X1_ruleThatHolds l G r12 b _ r hg) rfl rfl (Nat.le_of_ble_eq_true rfl) (Nat.le_of_ble_eq_true rfl) (Nat.le_of_ble_eq_true rfl) hl.1 dX5_canGive_94 (fun b28 r27 H locs hgr27 hh hm hs => ?_)
        refine W.eq (g2 := F0 m 97 ls [.int r27]) rfl ?_
        refine lv_bipush (v := (-2)) C.1 C.2.1 dX5_canGive_97 (by decide) ?_
        refine lv_icmp_ne (tgt := 106) C.1 C.2.1 dX5_canGive_99 (by decide) (fun c29 => ?_) (fun c29 => ?_)
        · rw [if_neg c29] at hh
          refine lv_iconst (v := 0) C.1 C.2.1 dX5_canGive_106 (by decide) ?_
          exact r_bretW hQ C hr hm hs (by decide) hh dX5_canGive_107
        · rw [if_pos c29] at hh
          refine lv_iconst (v := 1) C.1 C.2.1 dX5_canGive_102 (by decide) ?_
          refine lv_goto (tgt := 107) C.1 C.2.1 dX5_canGive_103 (by decide) ?_
          exact r_bretW hQ C hr hm hs (by decide) hh dX5_canGive_107
  · rw [if_pos c32] at hh
    refine lv_iconst (v := 0) C.1 C.2.1 dX5_canGive_18 (by decide) ?_
    exact r_bretW hQ C hr hm hs (by decide) hh dX5_canGive_19
def mX5_countUnlike_b50 (k4 : Nat → Int32 → Int32 → Int32 → Option (Int32)) (h : MHp) (a0 : Nat) (v1 : Int32) (v2 : Int32) (v3 : Int32) : Option (Int32) := k4 a0 v1 v2 (v3 + 1)
def mX5_countUnlike_l4 (h : MHp) : Nat → Nat → Int32 → Int32 → Int32 → Option (Int32)
  | 0, _, _, _, _ => none
  | n + 1, a0, v1, v2, v3 => (gR 6 0 h (some a0)).bind fun x1 => (gR 10 5 h x1).bind fun x2 => (gI 2 4 h x2).bind fun x3 => (if x3 ≤ v3 then some v2 else (if 6 ≤ v3 then some v2 else (if ((v1 >>> (v3 &&& 31)) &&& 1) = 0 then mX5_countUnlike_b50 (mX5_countUnlike_l4 h n) h a0 v1 v2 v3 else (gR 6 2 h (some a0)).bind fun x4 => (gAI 20 h x4 v3).bind fun x5 => (gR 6 3 h (some a0)).bind fun x6 => (gAI 20 h x6 v3).bind fun x7 => (if x5 = x7 then mX5_countUnlike_b50 (mX5_countUnlike_l4 h n) h a0 v1 v2 v3 else mX5_countUnlike_b50 (mX5_countUnlike_l4 h n) h a0 v1 (v2 + 1) v3))))
def mX5_countUnlike (h : MHp) (a0 : Nat) (a1 : Int32) : Option (Int32) := mX5_countUnlike_l4 h FUEL a0 a1 0 0
set_option maxRecDepth 100000 in
set_option maxHeartbeats 4000000 in
theorem c_X5_countUnlike (l : Launch) (G : Env0) (h : MHp) (a0 : Nat) (a1 : Int32) (res : Int32) (hh : mX5_countUnlike h a0 a1 = some res) : MG l yX5_countUnlike cX5_countUnlike 4 (some .int) 0 0 0 0 G h [.ref a0, .int a1] (some (.int res)) (h) := by
  refine MG_of (own := RX5) (plainFor_of_name (by decide)) rfl (Nat.le_of_ble_eq_true rfl) ?_
  intro p e s m args below meth c Q ls hQ C X hin hm hs hl hr
  have hl : lv_has ls 4 [(0, va_rf (some a0)), (1, .int a1)] := hl
  have B50 : ∀ (k4 : Nat → Int32 → Int32 → Int32 → Option (Int32)), (∀ (H : Heap) (locs : List Loc) (ls : Array Slot) (a0 : Nat) (v1 : Int32) (v2 : Int32) (v3 : Int32) , mHp (gD G) (gC G) (gB G) h H → va_S (fun q => gB G ≤ q) s.heap H locs → lv_has ls 4 [(0, va_rf (some a0)), (1, .int v1), (2, .int v2), (3, .int v3)] → k4 a0 v1 v2 v3 = some res → W p l e ({ frames := 0, cells := 0, slots := 0, locals := 0 }) s m args below meth c H locs 0 0 Q (F0 m 4 ls [])) → ∀ (H : Heap) (locs : List Loc) (ls : Array Slot) (a0 : Nat) (v1 : Int32) (v2 : Int32) (v3 : Int32) , mHp (gD G) (gC G) (gB G) h H → va_S (fun q => gB G ≤ q) s.heap H locs → lv_has ls 4 [(0, va_rf (some a0)), (1, .int v1), (2, .int v2), (3, .int v3)] → mX5_countUnlike_b50 k4 h a0 v1 v2 v3 = some res → W p l e ({ frames := 0, cells := 0, slots := 0, locals := 0 }) s m args below meth c H locs 0 0 Q (F0 m 50 ls []) := by
    intro k4 hk4 H locs ls a0 v1 v2 v3 hm hs hl hh
    unfold mX5_countUnlike_b50 at hh
    refine lv_iinc (v := (v3 + 1)) (lv' := [(3, .int (v3 + 1)), (0, va_rf (some a0)), (1, .int v1), (2, .int v2)]) C.1 C.2.1 dX5_countUnlike_50 hl (k := 3) rfl rfl (by decide) rfl (fun ls hl => ?_)
    refine lv_goto (tgt := 4) C.1 C.2.1 dX5_countUnlike_53 (by decide) ?_
    exact hk4 _ _ _ _ _ _ _  hm hs (lv_sub hl [1, 2, 3, 0] rfl) hh
  have B4 : ∀ n : Nat, ∀ (H : Heap) (locs : List Loc) (ls : Array Slot) (a0 : Nat) (v1 : Int32) (v2 : Int32) (v3 : Int32) , mHp (gD G) (gC G) (gB G) h H → va_S (fun q => gB G ≤ q) s.heap H locs → lv_has ls 4 [(0, va_rf (some a0)), (1, .int v1), (2, .int v2), (3, .int v3)] → mX5_countUnlike_l4 h n a0 v1 v2 v3 = some res → W p l e ({ frames := 0, cells := 0, slots := 0, locals := 0 }) s m args below meth c H locs 0 0 Q (F0 m 4 ls []) := by
    intro n
    induction n with
    | zero => intro H locs ls a0 v1 v2 v3 hm hs hl hh; cases hh
    | succ n ih =>
      intro H locs ls a0 v1 v2 v3 hm hs hl hh
      unfold mX5_countUnlike_l4 at hh
      refine lv_iload_n C.1 C.2.1 dX5_countUnlike_4 rfl (lv_at hl 3 rfl) ?_
      refine r_aload_n C.1 C.2.1 dX5_countUnlike_5 rfl (lv_at hl 0 rfl) ?_
      refine r_getR C hm flX5_34 dX5_countUnlike_6 hh (fun x1 _ hh => ?_)
      refine r_getR C hm flX5_67 dX5_countUnlike_9 hh (fun x2 _ hh => ?_)
      refine r_getI C hm flX5_164 dX5_countUnlike_12 hh (fun x3 _ hh => ?_)
      refine lv_icmp_ge (tgt := 56) C.1 C.2.1 dX5_countUnlike_15 (by decide) (fun c11 => ?_) (fun c11 => ?_)
      · rw [if_pos c11] at hh
        refine lv_iload_n C.1 C.2.1 dX5_countUnlike_56 rfl (lv_at hl 2 rfl) ?_
        exact r_iretP hQ C hr hm hs hh dX5_countUnlike_57
      · rw [if_neg c11] at hh
        refine lv_iload_n C.1 C.2.1 dX5_countUnlike_18 rfl (lv_at hl 3 rfl) ?_
        refine lv_bipush (v := 6) C.1 C.2.1 dX5_countUnlike_19 (by decide) ?_
        refine lv_icmp_ge (tgt := 56) C.1 C.2.1 dX5_countUnlike_21 (by decide) (fun c10 => ?_) (fun c10 => ?_)
        · rw [if_pos c10] at hh
          refine lv_iload_n C.1 C.2.1 dX5_countUnlike_56 rfl (lv_at hl 2 rfl) ?_
          exact r_iretP hQ C hr hm hs hh dX5_countUnlike_57
        · rw [if_neg c10] at hh
          refine lv_iload_n C.1 C.2.1 dX5_countUnlike_24 rfl (lv_at hl 1 rfl) ?_
          refine lv_iload_n C.1 C.2.1 dX5_countUnlike_25 rfl (lv_at hl 3 rfl) ?_
          refine lv_ishr C.1 C.2.1 dX5_countUnlike_26 ?_
          refine lv_iconst (v := 1) C.1 C.2.1 dX5_countUnlike_27 (by decide) ?_
          refine lv_iand C.1 C.2.1 dX5_countUnlike_28 ?_
          refine lv_if_eq (tgt := 50) C.1 C.2.1 dX5_countUnlike_29 (by decide) (fun c9 => ?_) (fun c9 => ?_)
          · rw [if_pos c9] at hh
            exact B50 _ ih _ _ _ _ _ _ _  hm hs (lv_sub hl [0, 1, 2, 3] rfl) hh
          · rw [if_neg c9] at hh
            refine r_aload_n C.1 C.2.1 dX5_countUnlike_32 rfl (lv_at hl 0 rfl) ?_
            refine r_getR C hm flX5_15 dX5_countUnlike_33 hh (fun x4 _ hh => ?_)
            refine lv_iload_n C.1 C.2.1 dX5_countUnlike_36 rfl (lv_at hl 3 rfl) ?_
            refine r_ald C hm dX5_countUnlike_37 hh (fun x5 _ hh => ?_)
            refine r_aload_n C.1 C.2.1 dX5_countUnlike_38 rfl (lv_at hl 0 rfl) ?_
            refine r_getR C hm flX5_19 dX5_countUnlike_39 hh (fun x6 _ hh => ?_)
            refine lv_iload_n C.1 C.2.1 dX5_countUnlike_42 rfl (lv_at hl 3 rfl) ?_
            refine r_ald C hm dX5_countUnlike_43 hh (fun x7 _ hh => ?_)
            refine lv_icmp_eq (tgt := 50) C.1 C.2.1 dX5_countUnlike_44 (by decide) (fun c8 => ?_) (fun c8 => ?_)
            · rw [if_pos c8] at hh
              exact B50 _ ih _ _ _ _ _ _ _  hm hs (lv_sub hl [0, 1, 2, 3] rfl) hh
            · rw [if_neg c8] at hh
              refine lv_iinc (v := (v2 + 1)) (lv' := [(2, .int (v2 + 1)), (0, va_rf (some a0)), (1, .int v1), (3, .int v3)]) C.1 C.2.1 dX5_countUnlike_47 hl (k := 2) rfl rfl (by decide) rfl (fun ls hl => ?_)
              exact B50 _ ih _ _ _ _ _ _ _  hm hs (lv_sub hl [1, 2, 0, 3] rfl) hh
  unfold mX5_countUnlike at hh
  refine lv_iconst (v := 0) C.1 C.2.1 dX5_countUnlike_0 (by decide) ?_
  refine lv_istore_n (i := 2) (lv' := [(2, .int 0), (0, va_rf (some a0)), (1, .int a1)]) C.1 C.2.1 dX5_countUnlike_1 rfl hl (by decide) rfl (fun ls hl => ?_)
  refine lv_iconst (v := 0) C.1 C.2.1 dX5_countUnlike_2 (by decide) ?_
  refine lv_istore_n (i := 3) (lv' := [(3, .int 0), (2, .int 0), (0, va_rf (some a0)), (1, .int a1)]) C.1 C.2.1 dX5_countUnlike_3 rfl hl (by decide) rfl (fun ls hl => ?_)
  exact B4 FUEL _ _ _ _ _ _ _  hm hs (lv_sub hl [2, 3, 1, 0] rfl) hh
def mX5_gatherGivers_b104 (k10 : MHp → Nat → Int32 → Int32 → Int32 → Int32 → Int32 → Int32 → Option (Int32 × MHp)) (h : MHp) (a0 : Nat) (v1 : Int32) (v2 : Int32) (v3 : Int32) (v4 : Int32) (v5 : Int32) (v6 : Int32) : Option (Int32 × MHp) := k10 h a0 v1 v2 v3 v4 v5 (v6 + 1)
def mX5_gatherGivers_b75 (k10 : MHp → Nat → Int32 → Int32 → Int32 → Int32 → Int32 → Int32 → Option (Int32 × MHp)) (h : MHp) (a0 : Nat) (v1 : Int32) (v2 : Int32) (v3 : Int32) (v4 : Int32) (v5 : Int32) (v6 : Int32) (v7 : Int32) : Option (Int32 × MHp) := (if v7 = v5 then (gR 6 7 h (some a0)).bind fun x1 => (gN 20 h x1).bind fun x2 => (if x2 ≤ v4 then mX5_gatherGivers_b104 k10 h a0 v1 v2 v3 v4 v5 v6 else (gR 6 7 h (some a0)).bind fun x3 => (pAI 20 h x3 v4 v6).bind fun h4 => mX5_gatherGivers_b104 k10 h4 a0 v1 v2 v3 (v4 + 1) v5 v6) else mX5_gatherGivers_b104 k10 h a0 v1 v2 v3 v4 v5 v6)
def mX5_gatherGivers_l10 : Nat → MHp → Nat → Int32 → Int32 → Int32 → Int32 → Int32 → Int32 → Option (Int32 × MHp)
  | 0, _, _, _, _, _, _, _, _ => none
  | n + 1, h, a0, v1, v2, v3, v4, v5, v6 => (gR 6 0 h (some a0)).bind fun x7 => (gI 10 6 h x7).bind fun x8 => (if x8 ≤ v6 then some (v4, h) else (gR 6 7 h (some a0)).bind fun x9 => (gN 20 h x9).bind fun x10 => (if x10 ≤ v6 then some (v4, h) else (if v6 = v1 then mX5_gatherGivers_b104 (mX5_gatherGivers_l10 n) h a0 v1 v2 v3 v4 v5 v6 else (rcv 6 h (some a0)).bind fun b12 => (mX5_canGive h b12 v6 v2 v3).bind fun r11 => (if r11.1 = 0 then mX5_gatherGivers_b104 (mX5_gatherGivers_l10 n) r11.2 a0 v1 v2 v3 v4 v5 v6 else (rcv 6 r11.2 (some a0)).bind fun b14 => (mX5_countUnlike r11.2 b14 (v2 ^^^ (-1))).bind fun r13 => (if v5 ≤ r13 then mX5_gatherGivers_b75 (mX5_gatherGivers_l10 n) r11.2 a0 v1 v2 v3 v4 v5 v6 r13 else mX5_gatherGivers_b75 (mX5_gatherGivers_l10 n) r11.2 a0 v1 v2 v3 0 r13 v6 r13)))))
def mX5_gatherGivers (h : MHp) (a0 : Nat) (a1 : Int32) (a2 : Int32) (a3 : Int32) : Option (Int32 × MHp) := mX5_gatherGivers_l10 FUEL h a0 a1 a2 a3 0 7 0
set_option maxRecDepth 100000 in
set_option maxHeartbeats 4000000 in
theorem c_X5_gatherGivers (l : Launch) (G : Env0) (h : MHp) (a0 : Nat) (a1 : Int32) (a2 : Int32) (a3 : Int32) (res : Int32 × MHp) (hh : mX5_gatherGivers h a0 a1 a2 a3 = some res) : MG l yX5_gatherGivers cX5_gatherGivers 8 (some .int) 4 96 0 0 G h [.ref a0, .int a1, .int a2, .int a3] (some (.int res.1)) (res.2) := by
  refine MG_of (own := RX5) (plainFor_of_name (by decide)) rfl (Nat.le_of_ble_eq_true rfl) ?_
  intro p e s m args below meth c Q ls hQ C X hin hm hs hl hr
  have hl : lv_has ls 8 [(0, va_rf (some a0)), (1, .int a1), (2, .int a2), (3, .int a3)] := hl
  have B104 : ∀ (k10 : MHp → Nat → Int32 → Int32 → Int32 → Int32 → Int32 → Int32 → Option (Int32 × MHp)), (∀ (h : MHp) (H : Heap) (locs : List Loc) (ls : Array Slot) (a0 : Nat) (v1 : Int32) (v2 : Int32) (v3 : Int32) (v4 : Int32) (v5 : Int32) (v6 : Int32) , mHp (gD G) (gC G) (gB G) h H → va_S (fun q => gB G ≤ q) s.heap H locs → lv_has ls 8 [(0, va_rf (some a0)), (1, .int v1), (2, .int v2), (3, .int v3), (4, .int v4), (5, .int v5), (6, .int v6)] → k10 h a0 v1 v2 v3 v4 v5 v6 = some res → W p l e ({ frames := 4, cells := 0, slots := 0, locals := 96 }) s m args below meth c H locs 0 0 Q (F0 m 10 ls [])) → ∀ (h : MHp) (H : Heap) (locs : List Loc) (ls : Array Slot) (a0 : Nat) (v1 : Int32) (v2 : Int32) (v3 : Int32) (v4 : Int32) (v5 : Int32) (v6 : Int32) , mHp (gD G) (gC G) (gB G) h H → va_S (fun q => gB G ≤ q) s.heap H locs → lv_has ls 8 [(0, va_rf (some a0)), (1, .int v1), (2, .int v2), (3, .int v3), (4, .int v4), (5, .int v5), (6, .int v6)] → mX5_gatherGivers_b104 k10 h a0 v1 v2 v3 v4 v5 v6 = some res → W p l e ({ frames := 4, cells := 0, slots := 0, locals := 96 }) s m args below meth c H locs 0 0 Q (F0 m 104 ls []) := by
    intro k10 hk10 h H locs ls a0 v1 v2 v3 v4 v5 v6 hm hs hl hh
    unfold mX5_gatherGivers_b104 at hh
    refine lv_iinc (v := (v6 + 1)) (lv' := [(6, .int (v6 + 1)), (0, va_rf (some a0)), (1, .int v1), (2, .int v2), (3, .int v3), (4, .int v4), (5, .int v5)]) C.1 C.2.1 dX5_gatherGivers_104 hl (k := 6) rfl rfl (by decide) rfl (fun ls hl => ?_)
    refine lv_goto (tgt := 10) C.1 C.2.1 dX5_gatherGivers_107 (by decide) ?_
    exact hk10 _ _ _ _ _ _ _ _ _ _ _  hm hs (lv_sub hl [1, 2, 3, 4, 5, 6, 0] rfl) hh
  have B75 : ∀ (k10 : MHp → Nat → Int32 → Int32 → Int32 → Int32 → Int32 → Int32 → Option (Int32 × MHp)), (∀ (h : MHp) (H : Heap) (locs : List Loc) (ls : Array Slot) (a0 : Nat) (v1 : Int32) (v2 : Int32) (v3 : Int32) (v4 : Int32) (v5 : Int32) (v6 : Int32) , mHp (gD G) (gC G) (gB G) h H → va_S (fun q => gB G ≤ q) s.heap H locs → lv_has ls 8 [(0, va_rf (some a0)), (1, .int v1), (2, .int v2), (3, .int v3), (4, .int v4), (5, .int v5), (6, .int v6)] → k10 h a0 v1 v2 v3 v4 v5 v6 = some res → W p l e ({ frames := 4, cells := 0, slots := 0, locals := 96 }) s m args below meth c H locs 0 0 Q (F0 m 10 ls [])) → ∀ (h : MHp) (H : Heap) (locs : List Loc) (ls : Array Slot) (a0 : Nat) (v1 : Int32) (v2 : Int32) (v3 : Int32) (v4 : Int32) (v5 : Int32) (v6 : Int32) (v7 : Int32) , mHp (gD G) (gC G) (gB G) h H → va_S (fun q => gB G ≤ q) s.heap H locs → lv_has ls 8 [(0, va_rf (some a0)), (1, .int v1), (2, .int v2), (3, .int v3), (4, .int v4), (5, .int v5), (6, .int v6), (7, .int v7)] → mX5_gatherGivers_b75 k10 h a0 v1 v2 v3 v4 v5 v6 v7 = some res → W p l e ({ frames := 4, cells := 0, slots := 0, locals := 96 }) s m args below meth c H locs 0 0 Q (F0 m 75 ls []) := by
    intro k10 hk10 h H locs ls a0 v1 v2 v3 v4 v5 v6 v7 hm hs hl hh
    unfold mX5_gatherGivers_b75 at hh
    refine lv_iload C.1 C.2.1 dX5_gatherGivers_75 (lv_at hl 7 rfl) ?_
    refine lv_iload C.1 C.2.1 dX5_gatherGivers_77 (lv_at hl 5 rfl) ?_
    refine lv_icmp_ne (tgt := 104) C.1 C.2.1 dX5_gatherGivers_79 (by decide) (fun c6 => ?_) (fun c6 => ?_)
    · rw [if_neg c6] at hh
      exact B104 _ hk10 _ _ _ _ _ _ _ _ _ _ _  hm hs (lv_sub hl [0, 1, 2, 3, 4, 5, 6] rfl) hh
    · rw [if_pos c6] at hh
      refine lv_iload C.1 C.2.1 dX5_gatherGivers_82 (lv_at hl 4 rfl) ?_
      refine r_aload_n C.1 C.2.1 dX5_gatherGivers_84 rfl (lv_at hl 0 rfl) ?_
      refine r_getR C hm flX5_31 dX5_gatherGivers_85 hh (fun x1 _ hh => ?_)
      refine r_len C hm dX5_gatherGivers_88 (kd := 20) (by decide) hh (fun x2 _ hh => ?_)
      refine lv_icmp_ge (tgt := 104) C.1 C.2.1 dX5_gatherGivers_89 (by decide) (fun c5 => ?_) (fun c5 => ?_)
      · rw [if_pos c5] at hh
        exact B104 _ hk10 _ _ _ _ _ _ _ _ _ _ _  hm hs (lv_sub hl [0, 1, 2, 3, 4, 5, 6] rfl) hh
      · rw [if_neg c5] at hh
        refine r_aload_n C.1 C.2.1 dX5_gatherGivers_92 rfl (lv_at hl 0 rfl) ?_
        refine r_getR C hm flX5_31 dX5_gatherGivers_93 hh (fun x3 _ hh => ?_)
        refine lv_iload C.1 C.2.1 dX5_gatherGivers_96 (lv_at hl 4 rfl) ?_
        refine lv_iload C.1 C.2.1 dX5_gatherGivers_98 (lv_at hl 6 rfl) ?_
        refine r_ast C hm hs dX5_gatherGivers_100 hh (fun h4 H locs _ hh hm hs => ?_)
        refine lv_iinc (v := (v4 + 1)) (lv' := [(4, .int (v4 + 1)), (0, va_rf (some a0)), (1, .int v1), (2, .int v2), (3, .int v3), (5, .int v5), (6, .int v6), (7, .int v7)]) C.1 C.2.1 dX5_gatherGivers_101 hl (k := 4) rfl rfl (by decide) rfl (fun ls hl => ?_)
        exact B104 _ hk10 _ _ _ _ _ _ _ _ _ _ _  hm hs (lv_sub hl [1, 2, 3, 4, 0, 5, 6] rfl) hh
  have B10 : ∀ n : Nat, ∀ (h : MHp) (H : Heap) (locs : List Loc) (ls : Array Slot) (a0 : Nat) (v1 : Int32) (v2 : Int32) (v3 : Int32) (v4 : Int32) (v5 : Int32) (v6 : Int32) , mHp (gD G) (gC G) (gB G) h H → va_S (fun q => gB G ≤ q) s.heap H locs → lv_has ls 8 [(0, va_rf (some a0)), (1, .int v1), (2, .int v2), (3, .int v3), (4, .int v4), (5, .int v5), (6, .int v6)] → mX5_gatherGivers_l10 n h a0 v1 v2 v3 v4 v5 v6 = some res → W p l e ({ frames := 4, cells := 0, slots := 0, locals := 96 }) s m args below meth c H locs 0 0 Q (F0 m 10 ls []) := by
    intro n
    induction n with
    | zero => intro h H locs ls a0 v1 v2 v3 v4 v5 v6 hm hs hl hh; cases hh
    | succ n ih =>
      intro h H locs ls a0 v1 v2 v3 v4 v5 v6 hm hs hl hh
      unfold mX5_gatherGivers_l10 at hh
      refine lv_iload C.1 C.2.1 dX5_gatherGivers_10 (lv_at hl 6 rfl) ?_
      refine r_aload_n C.1 C.2.1 dX5_gatherGivers_12 rfl (lv_at hl 0 rfl) ?_
      refine r_getR C hm flX5_34 dX5_gatherGivers_13 hh (fun x7 _ hh => ?_)
      refine r_getI C hm flX5_145 dX5_gatherGivers_16 hh (fun x8 _ hh => ?_)
      refine lv_icmp_ge (tgt := 110) C.1 C.2.1 dX5_gatherGivers_19 (by decide) (fun c19 => ?_) (fun c19 => ?_)
      · rw [if_pos c19] at hh
        refine lv_iload C.1 C.2.1 dX5_gatherGivers_110 (lv_at hl 4 rfl) ?_
        exact r_iretW hQ C hr hm hs hh dX5_gatherGivers_112
      · rw [if_neg c19] at hh
        refine lv_iload C.1 C.2.1 dX5_gatherGivers_22 (lv_at hl 6 rfl) ?_
        refine r_aload_n C.1 C.2.1 dX5_gatherGivers_24 rfl (lv_at hl 0 rfl) ?_
        refine r_getR C hm flX5_31 dX5_gatherGivers_25 hh (fun x9 _ hh => ?_)
        refine r_len C hm dX5_gatherGivers_28 (kd := 20) (by decide) hh (fun x10 _ hh => ?_)
        refine lv_icmp_ge (tgt := 110) C.1 C.2.1 dX5_gatherGivers_29 (by decide) (fun c18 => ?_) (fun c18 => ?_)
        · rw [if_pos c18] at hh
          refine lv_iload C.1 C.2.1 dX5_gatherGivers_110 (lv_at hl 4 rfl) ?_
          exact r_iretW hQ C hr hm hs hh dX5_gatherGivers_112
        · rw [if_neg c18] at hh
          refine lv_iload C.1 C.2.1 dX5_gatherGivers_32 (lv_at hl 6 rfl) ?_
          refine lv_iload_n C.1 C.2.1 dX5_gatherGivers_34 rfl (lv_at hl 1 rfl) ?_
          refine lv_icmp_eq (tgt := 104) C.1 C.2.1 dX5_gatherGivers_35 (by decide) (fun c17 => ?_) (fun c17 => ?_)
          · rw [if_pos c17] at hh
            exact B104 _ ih _ _ _ _ _ _ _ _ _ _ _  hm hs (lv_sub hl [0, 1, 2, 3, 4, 5, 6] rfl) hh
          · rw [if_neg c17] at hh
            refine r_aload_n C.1 C.2.1 dX5_gatherGivers_38 rfl (lv_at hl 0 rfl) ?_
            refine lv_iload C.1 C.2.1 dX5_gatherGivers_39 (lv_at hl 6 rfl) ?_
            refine lv_iload_n C.1 C.2.1 dX5_gatherGivers_41 rfl (lv_at hl 2 rfl) ?_
            refine lv_iload_n C.1 C.2.1 dX5_gatherGivers_42 rfl (lv_at hl 3 rfl) ?_
            refine r_cV C X hm hs mlX5_148 mvX5_148 hh (vv := fun r => some (.int r.1)) (hp := fun r => r.2) (fun b r hg => c_X5_canGive l G h b _ _ _ r hg) rfl rfl (Nat.le_of_ble_eq_true rfl) (Nat.le_of_ble_eq_true rfl) (Nat.le_of_ble_eq_true rfl) hl.1 dX5_gatherGivers_43 (fun b12 r11 H locs hgr11 hh hm hs => ?_)
            refine W.eq (g2 := F0 m 46 ls [.int r11.1]) rfl ?_
            refine lv_if_ne (tgt := 52) C.1 C.2.1 dX5_gatherGivers_46 (by decide) (fun c16 => ?_) (fun c16 => ?_)
            · rw [if_neg c16] at hh
              refine r_aload_n C.1 C.2.1 dX5_gatherGivers_52 rfl (lv_at hl 0 rfl) ?_
              refine lv_iload_n C.1 C.2.1 dX5_gatherGivers_53 rfl (lv_at hl 2 rfl) ?_
              refine lv_iconst (v := (-1)) C.1 C.2.1 dX5_gatherGivers_54 (by decide) ?_
              refine lv_ixor C.1 C.2.1 dX5_gatherGivers_55 ?_
              refine r_cV C X hm hs mlX5_152 mvX5_152 hh (vv := fun r => some (.int r)) (hp := fun r => r11.2) (fun b r hg => c_X5_countUnlike l G r11.2 b _ r hg) rfl rfl (Nat.le_of_ble_eq_true rfl) (Nat.le_of_ble_eq_true rfl) (Nat.le_of_ble_eq_true rfl) hl.1 dX5_gatherGivers_56 (fun b14 r13 H locs hgr13 hh hm hs => ?_)
              refine W.eq (g2 := F0 m 59 ls [.int r13]) rfl ?_
              refine lv_istore (i := 7) (lv' := [(7, .int r13), (0, va_rf (some a0)), (1, .int v1), (2, .int v2), (3, .int v3), (4, .int v4), (5, .int v5), (6, .int v6)]) C.1 C.2.1 dX5_gatherGivers_59 hl (by decide) rfl (fun ls hl => ?_)
              refine lv_iload C.1 C.2.1 dX5_gatherGivers_61 (lv_at hl 0 rfl) ?_
              refine lv_iload C.1 C.2.1 dX5_gatherGivers_63 (lv_at hl 6 rfl) ?_
              refine lv_icmp_ge (tgt := 75) C.1 C.2.1 dX5_gatherGivers_65 (by decide) (fun c15 => ?_) (fun c15 => ?_)
              · rw [if_pos c15] at hh
                exact B75 _ ih _ _ _ _ _ _ _ _ _ _ _ _  hm hs (lv_sub hl [1, 2, 3, 4, 5, 6, 7, 0] rfl) hh
              · rw [if_neg c15] at hh
                refine lv_iload C.1 C.2.1 dX5_gatherGivers_68 (lv_at hl 0 rfl) ?_
                refine lv_istore (i := 5) (lv' := [(5, .int r13), (7, .int r13), (0, va_rf (some a0)), (1, .int v1), (2, .int v2), (3, .int v3), (4, .int v4), (6, .int v6)]) C.1 C.2.1 dX5_gatherGivers_70 hl (by decide) rfl (fun ls hl => ?_)
                refine lv_iconst (v := 0) C.1 C.2.1 dX5_gatherGivers_72 (by decide) ?_
                refine lv_istore (i := 4) (lv' := [(4, .int 0), (5, .int r13), (7, .int r13), (0, va_rf (some a0)), (1, .int v1), (2, .int v2), (3, .int v3), (6, .int v6)]) C.1 C.2.1 dX5_gatherGivers_73 hl (by decide) rfl (fun ls hl => ?_)
                exact B75 _ ih _ _ _ _ _ _ _ _ _ _ _ _  hm hs (lv_sub hl [3, 4, 5, 6, 0, 1, 7, 2] rfl) hh
            · rw [if_pos c16] at hh
              refine lv_goto (tgt := 104) C.1 C.2.1 dX5_gatherGivers_49 (by decide) ?_
              exact B104 _ ih _ _ _ _ _ _ _ _ _ _ _  hm hs (lv_sub hl [0, 1, 2, 3, 4, 5, 6] rfl) hh
  unfold mX5_gatherGivers at hh
  refine lv_iconst (v := 0) C.1 C.2.1 dX5_gatherGivers_0 (by decide) ?_
  refine lv_istore (i := 4) (lv' := [(4, .int 0), (0, va_rf (some a0)), (1, .int a1), (2, .int a2), (3, .int a3)]) C.1 C.2.1 dX5_gatherGivers_1 hl (by decide) rfl (fun ls hl => ?_)
  refine lv_bipush (v := 7) C.1 C.2.1 dX5_gatherGivers_3 (by decide) ?_
  refine lv_istore (i := 5) (lv' := [(5, .int 7), (4, .int 0), (0, va_rf (some a0)), (1, .int a1), (2, .int a2), (3, .int a3)]) C.1 C.2.1 dX5_gatherGivers_5 hl (by decide) rfl (fun ls hl => ?_)
  refine lv_iconst (v := 0) C.1 C.2.1 dX5_gatherGivers_7 (by decide) ?_
  refine lv_istore (i := 6) (lv' := [(6, .int 0), (5, .int 7), (4, .int 0), (0, va_rf (some a0)), (1, .int a1), (2, .int a2), (3, .int a3)]) C.1 C.2.1 dX5_gatherGivers_8 hl (by decide) rfl (fun ls hl => ?_)
  exact B10 FUEL _ _ _ _ _ _ _ _ _ _ _  hm hs (lv_sub hl [3, 4, 5, 6, 2, 1, 0] rfl) hh
def mX5_takeFrom (h : MHp) (a0 : Nat) (a1 : Int32) (a2 : Int32) : Option (MHp) := (gR 6 0 h (some a0)).bind fun x1 => (gR 6 0 h (some a0)).bind fun x2 => (gI 10 7 h x2).bind fun x3 => (gR 6 3 h (some a0)).bind fun x4 => (rcv 10 h x1).bind fun b6 => (mX9_load h b6 a1 x3 0 x4).bind fun r5 => (rcv 6 r5 (some a0)).bind fun b8 => (mX5_putTheirs r5 b8 a2).bind fun r7 => some r7
set_option maxRecDepth 100000 in
set_option maxHeartbeats 4000000 in
theorem c_X5_takeFrom (l : Launch) (G : Env0) (h : MHp) (a0 : Nat) (a1 : Int32) (a2 : Int32) (res : MHp) (hh : mX5_takeFrom h a0 a1 a2 = some res) : MG l yX5_takeFrom cX5_takeFrom 3 none 3 73 0 0 G h [.ref a0, .int a1, .int a2] (none) (res) := by
  refine MG_of (own := RX5) (plainFor_of_name (by decide)) rfl (Nat.le_of_ble_eq_true rfl) ?_
  intro p e s m args below meth c Q ls hQ C X hin hm hs hl hr
  have hl : lv_has ls 3 [(0, va_rf (some a0)), (1, .int a1), (2, .int a2)] := hl
  unfold mX5_takeFrom at hh
  refine r_aload_n C.1 C.2.1 dX5_takeFrom_0 rfl (lv_at hl 0 rfl) ?_
  refine r_getR C hm flX5_34 dX5_takeFrom_1 hh (fun x1 _ hh => ?_)
  refine lv_iload_n C.1 C.2.1 dX5_takeFrom_4 rfl (lv_at hl 1 rfl) ?_
  refine r_aload_n C.1 C.2.1 dX5_takeFrom_5 rfl (lv_at hl 0 rfl) ?_
  refine r_getR C hm flX5_34 dX5_takeFrom_6 hh (fun x2 _ hh => ?_)
  refine r_getI C hm flX5_38 dX5_takeFrom_9 hh (fun x3 _ hh => ?_)
  refine lv_iconst (v := 0) C.1 C.2.1 dX5_takeFrom_12 (by decide) ?_
  refine r_aload_n C.1 C.2.1 dX5_takeFrom_13 rfl (lv_at hl 0 rfl) ?_
  refine r_getR C hm flX5_19 dX5_takeFrom_14 hh (fun x4 _ hh => ?_)
  refine r_cV C X hm hs mlX5_43 mvX5_43 hh (vv := fun r => none) (hp := fun r => r) (fun b r hg => c_X9_load l G h b _ _ _ _ r hg) rfl rfl (Nat.le_of_ble_eq_true rfl) (Nat.le_of_ble_eq_true rfl) (Nat.le_of_ble_eq_true rfl) hl.1 dX5_takeFrom_17 (fun b6 r5 H locs hgr5 hh hm hs => ?_)
  refine W.eq (g2 := F0 m 20 ls []) rfl ?_
  refine r_aload_n C.1 C.2.1 dX5_takeFrom_20 rfl (lv_at hl 0 rfl) ?_
  refine lv_iload_n C.1 C.2.1 dX5_takeFrom_21 rfl (lv_at hl 2 rfl) ?_
  refine r_cV C X hm hs mlX5_158 mvX5_158 hh (vv := fun r => none) (hp := fun r => r) (fun b r hg => c_X5_putTheirs l G r5 b _ r hg) rfl rfl (Nat.le_of_ble_eq_true rfl) (Nat.le_of_ble_eq_true rfl) (Nat.le_of_ble_eq_true rfl) hl.1 dX5_takeFrom_22 (fun b8 r7 H locs hgr7 hh hm hs => ?_)
  refine W.eq (g2 := F0 m 25 ls []) rfl ?_
  exact r_vretW hQ C hr hm hs hh dX5_takeFrom_25
def mX5_mendRow_b83 (h : MHp) (a0 : Nat) (v1 : Int32) (v2 : Int32) : Option (Int32 × MHp) := (gR 6 0 h (some a0)).bind fun x1 => (gR 6 4 h (some a0)).bind fun x2 => (rcv 10 h x1).bind fun b4 => (mX9_mendWith h b4 v1 x2).bind fun r3 => some (v2, r3)
def mX5_mendRow_b53 (h : MHp) (a0 : Nat) (v1 : Int32) (v2 : Int32) (t0 : Option Nat) (t1 : Int32) : Option (Int32 × MHp) := (pI 6 1 h t0 t1).bind fun h5 => (gI 6 1 h5 (some a0)).bind fun x6 => (if x6 = (-2) then (rcv 6 h5 (some a0)).bind fun b11 => (mX5_findValues h5 b11 v2).bind fun r10 => mX5_mendRow_b83 r10.2 a0 v1 v2 else (gI 6 1 h5 (some a0)).bind fun x7 => (rcv 6 h5 (some a0)).bind fun b9 => (mX5_takeFrom h5 b9 x7 v2).bind fun r8 => mX5_mendRow_b83 r8 a0 v1 v2)
def mX5_mendRow (h : MHp) (a0 : Nat) (a1 : Int32) : Option (Int32 × MHp) := (gR 6 0 h (some a0)).bind fun x13 => (gR 6 0 h (some a0)).bind fun x14 => (gI 10 7 h x14).bind fun x15 => (gR 6 2 h (some a0)).bind fun x16 => (rcv 10 h x13).bind fun b18 => (mX9_load h b18 a1 x15 0 x16).bind fun r17 => (rcv 6 r17 (some a0)).bind fun b20 => (mX5_cheapestSet r17 b20).bind fun r19 => (if r19.1 = 0 then some (0, r19.2) else (rcv 6 r19.2 (some a0)).bind fun b22 => (mX5_gatherGivers r19.2 b22 a1 r19.1 r19.1).bind fun r21 => (if r21.1 ≤ 0 then mX5_mendRow_b53 r21.2 a0 a1 r19.1 (some a0) (-2) else (gR 6 7 r21.2 (some a0)).bind fun x23 => (gAI 20 r21.2 x23 0).bind fun x24 => mX5_mendRow_b53 r21.2 a0 a1 r19.1 (some a0) x24))
set_option maxRecDepth 100000 in
set_option maxHeartbeats 4000000 in
theorem c_X5_mendRow (l : Launch) (G : Env0) (h : MHp) (a0 : Nat) (a1 : Int32) (res : Int32 × MHp) (hh : mX5_mendRow h a0 a1 = some res) : MG l yX5_mendRow cX5_mendRow 3 (some .int) 5 123 0 0 G h [.ref a0, .int a1] (some (.int res.1)) (res.2) := by
  refine MG_of (own := RX5) (plainFor_of_name (by decide)) rfl (Nat.le_of_ble_eq_true rfl) ?_
  intro p e s m args below meth c Q ls hQ C X hin hm hs hl hr
  have hl : lv_has ls 3 [(0, va_rf (some a0)), (1, .int a1)] := hl
  have B83 : ∀ (h : MHp) (H : Heap) (locs : List Loc) (ls : Array Slot) (a0 : Nat) (v1 : Int32) (v2 : Int32) , mHp (gD G) (gC G) (gB G) h H → va_S (fun q => gB G ≤ q) s.heap H locs → lv_has ls 3 [(0, va_rf (some a0)), (1, .int v1), (2, .int v2)] → mX5_mendRow_b83 h a0 v1 v2 = some res → W p l e ({ frames := 5, cells := 0, slots := 0, locals := 123 }) s m args below meth c H locs 0 0 Q (F0 m 83 ls []) := by
    intro h H locs ls a0 v1 v2 hm hs hl hh
    unfold mX5_mendRow_b83 at hh
    refine r_aload_n C.1 C.2.1 dX5_mendRow_83 rfl (lv_at hl 0 rfl) ?_
    refine r_getR C hm flX5_34 dX5_mendRow_84 hh (fun x1 _ hh => ?_)
    refine lv_iload_n C.1 C.2.1 dX5_mendRow_87 rfl (lv_at hl 1 rfl) ?_
    refine r_aload_n C.1 C.2.1 dX5_mendRow_88 rfl (lv_at hl 0 rfl) ?_
    refine r_getR C hm flX5_22 dX5_mendRow_89 hh (fun x2 _ hh => ?_)
    refine r_cV C X hm hs mlX5_63 mvX5_63 hh (vv := fun r => none) (hp := fun r => r) (fun b r hg => c_X9_mendWith l G h b _ _ r hg) rfl rfl (Nat.le_of_ble_eq_true rfl) (Nat.le_of_ble_eq_true rfl) (Nat.le_of_ble_eq_true rfl) hl.1 dX5_mendRow_92 (fun b4 r3 H locs hgr3 hh hm hs => ?_)
    refine W.eq (g2 := F0 m 95 ls []) rfl ?_
    refine lv_iload_n C.1 C.2.1 dX5_mendRow_95 rfl (lv_at hl 2 rfl) ?_
    exact r_iretW hQ C hr hm hs hh dX5_mendRow_96
  have B53 : ∀ (h : MHp) (H : Heap) (locs : List Loc) (ls : Array Slot) (a0 : Nat) (v1 : Int32) (v2 : Int32) (t0 : Option Nat) (t1 : Int32) , mHp (gD G) (gC G) (gB G) h H → va_S (fun q => gB G ≤ q) s.heap H locs → lv_has ls 3 [(0, va_rf (some a0)), (1, .int v1), (2, .int v2)] → mX5_mendRow_b53 h a0 v1 v2 t0 t1 = some res → W p l e ({ frames := 5, cells := 0, slots := 0, locals := 123 }) s m args below meth c H locs 0 0 Q (F0 m 53 ls [.int t1, va_rf t0]) := by
    intro h H locs ls a0 v1 v2 t0 t1 hm hs hl hh
    unfold mX5_mendRow_b53 at hh
    refine r_putI C hm hs flX5_9 (Or.inl fm_6_1) dX5_mendRow_53 hh (fun h5 H locs _ hh hm hs => ?_)
    refine r_aload_n C.1 C.2.1 dX5_mendRow_56 rfl (lv_at hl 0 rfl) ?_
    refine r_getI C hm flX5_9 dX5_mendRow_57 hh (fun x6 _ hh => ?_)
    refine lv_bipush (v := (-2)) C.1 C.2.1 dX5_mendRow_60 (by decide) ?_
    refine lv_icmp_ne (tgt := 74) C.1 C.2.1 dX5_mendRow_62 (by decide) (fun c12 => ?_) (fun c12 => ?_)
    · rw [if_neg c12] at hh
      refine r_aload_n C.1 C.2.1 dX5_mendRow_74 rfl (lv_at hl 0 rfl) ?_
      refine r_aload_n C.1 C.2.1 dX5_mendRow_75 rfl (lv_at hl 0 rfl) ?_
      refine r_getI C hm flX5_9 dX5_mendRow_76 hh (fun x7 _ hh => ?_)
      refine lv_iload_n C.1 C.2.1 dX5_mendRow_79 rfl (lv_at hl 2 rfl) ?_
      refine r_cV C X hm hs mlX5_59 mvX5_59 hh (vv := fun r => none) (hp := fun r => r) (fun b r hg => c_X5_takeFrom l G h5 b _ _ r hg) rfl rfl (Nat.le_of_ble_eq_true rfl) (Nat.le_of_ble_eq_true rfl) (Nat.le_of_ble_eq_true rfl) hl.1 dX5_mendRow_80 (fun b9 r8 H locs hgr8 hh hm hs => ?_)
      refine W.eq (g2 := F0 m 83 ls []) rfl ?_
      exact B83 _ _ _ _ _ _ _  hm hs (lv_sub hl [0, 1, 2] rfl) hh
    · rw [if_pos c12] at hh
      refine r_aload_n C.1 C.2.1 dX5_mendRow_65 rfl (lv_at hl 0 rfl) ?_
      refine lv_iload_n C.1 C.2.1 dX5_mendRow_66 rfl (lv_at hl 2 rfl) ?_
      refine r_cV C X hm hs mlX5_55 mvX5_55 hh (vv := fun r => some (.int r.1)) (hp := fun r => r.2) (fun b r hg => c_X5_findValues l G h5 b _ r hg) rfl rfl (Nat.le_of_ble_eq_true rfl) (Nat.le_of_ble_eq_true rfl) (Nat.le_of_ble_eq_true rfl) hl.1 dX5_mendRow_67 (fun b11 r10 H locs hgr10 hh hm hs => ?_)
      refine W.eq (g2 := F0 m 70 ls [.int r10.1]) rfl ?_
      refine lv_pop C.1 C.2.1 dX5_mendRow_70 rfl ?_
      refine lv_goto (tgt := 83) C.1 C.2.1 dX5_mendRow_71 (by decide) ?_
      exact B83 _ _ _ _ _ _ _  hm hs (lv_sub hl [0, 1, 2] rfl) hh
  unfold mX5_mendRow at hh
  refine r_aload_n C.1 C.2.1 dX5_mendRow_0 rfl (lv_at hl 0 rfl) ?_
  refine r_getR C hm flX5_34 dX5_mendRow_1 hh (fun x13 _ hh => ?_)
  refine lv_iload_n C.1 C.2.1 dX5_mendRow_4 rfl (lv_at hl 1 rfl) ?_
  refine r_aload_n C.1 C.2.1 dX5_mendRow_5 rfl (lv_at hl 0 rfl) ?_
  refine r_getR C hm flX5_34 dX5_mendRow_6 hh (fun x14 _ hh => ?_)
  refine r_getI C hm flX5_38 dX5_mendRow_9 hh (fun x15 _ hh => ?_)
  refine lv_iconst (v := 0) C.1 C.2.1 dX5_mendRow_12 (by decide) ?_
  refine r_aload_n C.1 C.2.1 dX5_mendRow_13 rfl (lv_at hl 0 rfl) ?_
  refine r_getR C hm flX5_15 dX5_mendRow_14 hh (fun x16 _ hh => ?_)
  refine r_cV C X hm hs mlX5_43 mvX5_43 hh (vv := fun r => none) (hp := fun r => r) (fun b r hg => c_X9_load l G h b _ _ _ _ r hg) rfl rfl (Nat.le_of_ble_eq_true rfl) (Nat.le_of_ble_eq_true rfl) (Nat.le_of_ble_eq_true rfl) hl.1 dX5_mendRow_17 (fun b18 r17 H locs hgr17 hh hm hs => ?_)
  refine W.eq (g2 := F0 m 20 ls []) rfl ?_
  refine r_aload_n C.1 C.2.1 dX5_mendRow_20 rfl (lv_at hl 0 rfl) ?_
  refine r_cV C X hm hs mlX5_47 mvX5_47 hh (vv := fun r => some (.int r.1)) (hp := fun r => r.2) (fun b r hg => c_X5_cheapestSet l G r17 b  r hg) rfl rfl (Nat.le_of_ble_eq_true rfl) (Nat.le_of_ble_eq_true rfl) (Nat.le_of_ble_eq_true rfl) hl.1 dX5_mendRow_21 (fun b20 r19 H locs hgr19 hh hm hs => ?_)
  refine W.eq (g2 := F0 m 24 ls [.int r19.1]) rfl ?_
  refine lv_istore_n (i := 2) (lv' := [(2, .int r19.1), (0, va_rf (some a0)), (1, .int a1)]) C.1 C.2.1 dX5_mendRow_24 rfl hl (by decide) rfl (fun ls hl => ?_)
  refine lv_iload_n C.1 C.2.1 dX5_mendRow_25 rfl (lv_at hl 0 rfl) ?_
  refine lv_if_ne (tgt := 31) C.1 C.2.1 dX5_mendRow_26 (by decide) (fun c26 => ?_) (fun c26 => ?_)
  · rw [if_neg c26] at hh
    refine r_aload_n C.1 C.2.1 dX5_mendRow_31 rfl (lv_at hl 1 rfl) ?_
    refine r_aload_n C.1 C.2.1 dX5_mendRow_32 rfl (lv_at hl 1 rfl) ?_
    refine lv_iload_n C.1 C.2.1 dX5_mendRow_33 rfl (lv_at hl 2 rfl) ?_
    refine lv_iload_n C.1 C.2.1 dX5_mendRow_34 rfl (lv_at hl 0 rfl) ?_
    refine lv_iload_n C.1 C.2.1 dX5_mendRow_35 rfl (lv_at hl 0 rfl) ?_
    refine r_cV C X hm hs mlX5_51 mvX5_51 hh (vv := fun r => some (.int r.1)) (hp := fun r => r.2) (fun b r hg => c_X5_gatherGivers l G r19.2 b _ _ _ r hg) rfl rfl (by simp [va_cat, vc_i, vc_l, vc_r]) (Nat.le_of_ble_eq_true rfl) (Nat.le_of_ble_eq_true rfl) hl.1 dX5_mendRow_36 (fun b22 r21 H locs hgr21 hh hm hs => ?_)
    refine W.eq (g2 := F0 m 39 ls [.int r21.1, va_rf (some a0)]) rfl ?_
    refine lv_if_le (tgt := 51) C.1 C.2.1 dX5_mendRow_39 (by decide) (fun c25 => ?_) (fun c25 => ?_)
    · rw [if_pos c25] at hh
      refine lv_bipush (v := (-2)) C.1 C.2.1 dX5_mendRow_51 (by decide) ?_
      exact B53 _ _ _ _ _ _ _ _ _  hm hs (lv_sub hl [1, 2, 0] rfl) hh
    · rw [if_neg c25] at hh
      refine r_aload_n C.1 C.2.1 dX5_mendRow_42 rfl (lv_at hl 1 rfl) ?_
      refine r_getR C hm flX5_31 dX5_mendRow_43 hh (fun x23 _ hh => ?_)
      refine lv_iconst (v := 0) C.1 C.2.1 dX5_mendRow_46 (by decide) ?_
      refine r_ald C hm dX5_mendRow_47 hh (fun x24 _ hh => ?_)
      refine lv_goto (tgt := 53) C.1 C.2.1 dX5_mendRow_48 (by decide) ?_
      exact B53 _ _ _ _ _ _ _ _ _  hm hs (lv_sub hl [1, 2, 0] rfl) hh
  · rw [if_pos c26] at hh
    refine lv_iconst (v := 0) C.1 C.2.1 dX5_mendRow_29 (by decide) ?_
    exact r_iretW hQ C hr hm hs hh dX5_mendRow_30
def mX5_fillRow_b105 (k63 : MHp → Nat → Int32 → Int32 → Int32 → Int32 → Int32 → Option (Int32 × MHp)) (h : MHp) (a0 : Nat) (v1 : Int32) (v2 : Int32) (v3 : Int32) (v4 : Int32) (v5 : Int32) : Option (Int32 × MHp) := (gR 6 0 h (some a0)).bind fun x1 => (gR 6 4 h (some a0)).bind fun x2 => (rcv 10 h x1).bind fun b4 => (mX9_fillWith h b4 v1 v5 x2).bind fun r3 => k63 r3 a0 v1 v2 v3 v4 (v5 + 1)
def mX5_fillRow_l63 : Nat → MHp → Nat → Int32 → Int32 → Int32 → Int32 → Int32 → Option (Int32 × MHp)
  | 0, _, _, _, _, _, _, _ => none
  | n + 1, h, a0, v1, v2, v3, v4, v5 => (if 5 ≤ v5 then (gR 6 0 h (some a0)).bind fun x5 => (rcv 10 h x5).bind fun b7 => (mX9_endFilling h b7 v1).bind fun r6 => some (v4, r6) else (nz v4).bind fun _ => (if ((v2 + v5) - (v2 + v5) / v4 * v4) < 0 then mX5_fillRow_b105 (mX5_fillRow_l63 n) h a0 v1 v2 v3 v4 v5 else (gR 6 7 h (some a0)).bind fun x8 => (gN 20 h x8).bind fun x9 => (if x9 ≤ ((v2 + v5) - (v2 + v5) / v4 * v4) then mX5_fillRow_b105 (mX5_fillRow_l63 n) h a0 v1 v2 v3 v4 v5 else (gR 6 7 h (some a0)).bind fun x10 => (gAI 20 h x10 ((v2 + v5) - (v2 + v5) / v4 * v4)).bind fun x11 => (rcv 6 h (some a0)).bind fun b13 => (mX5_takeFrom h b13 x11 v3).bind fun r12 => mX5_fillRow_b105 (mX5_fillRow_l63 n) r12 a0 v1 v2 v3 v4 v5)))
def mX5_fillRow (h : MHp) (a0 : Nat) (a1 : Int32) (a2 : Int32) : Option (Int32 × MHp) := (gR 6 0 h (some a0)).bind fun x17 => (gR 6 0 h (some a0)).bind fun x18 => (gI 10 7 h x18).bind fun x19 => (gR 6 2 h (some a0)).bind fun x20 => (rcv 10 h x17).bind fun b22 => (mX9_load h b22 a1 x19 0 x20).bind fun r21 => (gR 6 0 r21 (some a0)).bind fun x23 => (gR 10 5 r21 x23).bind fun x24 => (gR 6 2 r21 (some a0)).bind fun x25 => (rcv 2 r21 x24).bind fun b27 => (mX1_gapsOf r21 b27 x25).bind fun r26 => (gR 6 0 r21 (some a0)).bind fun x28 => (gR 10 5 r21 x28).bind fun x29 => (rcv 2 r21 x29).bind fun b31 => (mX1_allFields r21 b31).bind fun r30 => (rcv 6 r21 (some a0)).bind fun b33 => (mX5_gatherGivers r21 b33 a1 r26 r30).bind fun r32 => (if 0 < r32.1 then mX5_fillRow_l63 FUEL r32.2 a0 a1 a2 r26 r32.1 0 else some (0, r32.2))
set_option maxRecDepth 100000 in
set_option maxHeartbeats 4000000 in
theorem c_X5_fillRow (l : Launch) (G : Env0) (h : MHp) (a0 : Nat) (a1 : Int32) (a2 : Int32) (res : Int32 × MHp) (hh : mX5_fillRow h a0 a1 a2 = some res) : MG l yX5_fillRow cX5_fillRow 7 (some .int) 5 123 0 0 G h [.ref a0, .int a1, .int a2] (some (.int res.1)) (res.2) := by
  refine MG_of (own := RX5) (plainFor_of_name (by decide)) rfl (Nat.le_of_ble_eq_true rfl) ?_
  intro p e s m args below meth c Q ls hQ C X hin hm hs hl hr
  have hl : lv_has ls 7 [(0, va_rf (some a0)), (1, .int a1), (2, .int a2)] := hl
  have B105 : ∀ (k63 : MHp → Nat → Int32 → Int32 → Int32 → Int32 → Int32 → Option (Int32 × MHp)), (∀ (h : MHp) (H : Heap) (locs : List Loc) (ls : Array Slot) (a0 : Nat) (v1 : Int32) (v2 : Int32) (v3 : Int32) (v4 : Int32) (v5 : Int32) , mHp (gD G) (gC G) (gB G) h H → va_S (fun q => gB G ≤ q) s.heap H locs → lv_has ls 7 [(0, va_rf (some a0)), (1, .int v1), (2, .int v2), (3, .int v3), (4, .int v4), (5, .int v5)] → k63 h a0 v1 v2 v3 v4 v5 = some res → W p l e ({ frames := 5, cells := 0, slots := 0, locals := 123 }) s m args below meth c H locs 0 0 Q (F0 m 63 ls [])) → ∀ (h : MHp) (H : Heap) (locs : List Loc) (ls : Array Slot) (a0 : Nat) (v1 : Int32) (v2 : Int32) (v3 : Int32) (v4 : Int32) (v5 : Int32) , mHp (gD G) (gC G) (gB G) h H → va_S (fun q => gB G ≤ q) s.heap H locs → lv_has ls 7 [(0, va_rf (some a0)), (1, .int v1), (2, .int v2), (3, .int v3), (4, .int v4), (5, .int v5)] → mX5_fillRow_b105 k63 h a0 v1 v2 v3 v4 v5 = some res → W p l e ({ frames := 5, cells := 0, slots := 0, locals := 123 }) s m args below meth c H locs 0 0 Q (F0 m 105 ls []) := by
    intro k63 hk63 h H locs ls a0 v1 v2 v3 v4 v5 hm hs hl hh
    unfold mX5_fillRow_b105 at hh
    refine r_aload_n C.1 C.2.1 dX5_fillRow_105 rfl (lv_at hl 0 rfl) ?_
    refine r_getR C hm flX5_34 dX5_fillRow_106 hh (fun x1 _ hh => ?_)
    refine lv_iload_n C.1 C.2.1 dX5_fillRow_109 rfl (lv_at hl 1 rfl) ?_
    refine lv_iload C.1 C.2.1 dX5_fillRow_110 (lv_at hl 5 rfl) ?_
    refine r_aload_n C.1 C.2.1 dX5_fillRow_112 rfl (lv_at hl 0 rfl) ?_
    refine r_getR C hm flX5_22 dX5_fillRow_113 hh (fun x2 _ hh => ?_)
    refine r_cV C X hm hs mlX5_80 mvX5_80 hh (vv := fun r => none) (hp := fun r => r) (fun b r hg => c_X9_fillWith l G h b _ _ _ r hg) rfl rfl (Nat.le_of_ble_eq_true rfl) (Nat.le_of_ble_eq_true rfl) (Nat.le_of_ble_eq_true rfl) hl.1 dX5_fillRow_116 (fun b4 r3 H locs hgr3 hh hm hs => ?_)
    refine W.eq (g2 := F0 m 119 ls []) rfl ?_
    refine lv_iinc (v := (v5 + 1)) (lv' := [(5, .int (v5 + 1)), (0, va_rf (some a0)), (1, .int v1), (2, .int v2), (3, .int v3), (4, .int v4)]) C.1 C.2.1 dX5_fillRow_119 hl (k := 5) rfl rfl (by decide) rfl (fun ls hl => ?_)
    refine lv_goto (tgt := 63) C.1 C.2.1 dX5_fillRow_122 (by decide) ?_
    exact hk63 _ _ _ _ _ _ _ _ _ _  hm hs (lv_sub hl [1, 2, 3, 4, 5, 0] rfl) hh
  have B63 : ∀ n : Nat, ∀ (h : MHp) (H : Heap) (locs : List Loc) (ls : Array Slot) (a0 : Nat) (v1 : Int32) (v2 : Int32) (v3 : Int32) (v4 : Int32) (v5 : Int32) , mHp (gD G) (gC G) (gB G) h H → va_S (fun q => gB G ≤ q) s.heap H locs → lv_has ls 7 [(0, va_rf (some a0)), (1, .int v1), (2, .int v2), (3, .int v3), (4, .int v4), (5, .int v5)] → mX5_fillRow_l63 n h a0 v1 v2 v3 v4 v5 = some res → W p l e ({ frames := 5, cells := 0, slots := 0, locals := 123 }) s m args below meth c H locs 0 0 Q (F0 m 63 ls []) := by
    intro n
    induction n with
    | zero => intro h H locs ls a0 v1 v2 v3 v4 v5 hm hs hl hh; cases hh
    | succ n ih =>
      intro h H locs ls a0 v1 v2 v3 v4 v5 hm hs hl hh
      unfold mX5_fillRow_l63 at hh
      refine lv_iload C.1 C.2.1 dX5_fillRow_63 (lv_at hl 5 rfl) ?_
      refine lv_iconst (v := 5) C.1 C.2.1 dX5_fillRow_65 (by decide) ?_
      refine lv_icmp_ge (tgt := 125) C.1 C.2.1 dX5_fillRow_66 (by decide) (fun c16 => ?_) (fun c16 => ?_)
      · rw [if_pos c16] at hh
        refine r_aload_n C.1 C.2.1 dX5_fillRow_125 rfl (lv_at hl 0 rfl) ?_
        refine r_getR C hm flX5_34 dX5_fillRow_126 hh (fun x5 _ hh => ?_)
        refine lv_iload_n C.1 C.2.1 dX5_fillRow_129 rfl (lv_at hl 1 rfl) ?_
        refine r_cV C X hm hs mlX5_84 mvX5_84 hh (vv := fun r => none) (hp := fun r => r) (fun b r hg => c_X9_endFilling l G h b _ r hg) rfl rfl (Nat.le_of_ble_eq_true rfl) (Nat.le_of_ble_eq_true rfl) (Nat.le_of_ble_eq_true rfl) hl.1 dX5_fillRow_130 (fun b7 r6 H locs hgr6 hh hm hs => ?_)
        refine W.eq (g2 := F0 m 133 ls []) rfl ?_
        refine lv_iload C.1 C.2.1 dX5_fillRow_133 (lv_at hl 4 rfl) ?_
        exact r_iretW hQ C hr hm hs hh dX5_fillRow_135
      · rw [if_neg c16] at hh
        refine lv_iload_n C.1 C.2.1 dX5_fillRow_69 rfl (lv_at hl 2 rfl) ?_
        refine lv_iload C.1 C.2.1 dX5_fillRow_70 (lv_at hl 5 rfl) ?_
        refine lv_iadd C.1 C.2.1 dX5_fillRow_72 ?_
        refine lv_iload C.1 C.2.1 dX5_fillRow_73 (lv_at hl 4 rfl) ?_
        refine r_irem C dX5_fillRow_75 hh (fun _ hh => ?_)
        refine lv_istore (i := 6) (lv' := [(6, .int ((v2 + v5) - (v2 + v5) / v4 * v4)), (0, va_rf (some a0)), (1, .int v1), (2, .int v2), (3, .int v3), (4, .int v4), (5, .int v5)]) C.1 C.2.1 dX5_fillRow_76 hl (by decide) rfl (fun ls hl => ?_)
        refine lv_iload C.1 C.2.1 dX5_fillRow_78 (lv_at hl 0 rfl) ?_
        refine lv_if_lt (tgt := 105) C.1 C.2.1 dX5_fillRow_80 (by decide) (fun c15 => ?_) (fun c15 => ?_)
        · rw [if_pos c15] at hh
          exact B105 _ ih _ _ _ _ _ _ _ _ _ _  hm hs (lv_sub hl [1, 2, 3, 4, 5, 6] rfl) hh
        · rw [if_neg c15] at hh
          refine lv_iload C.1 C.2.1 dX5_fillRow_83 (lv_at hl 0 rfl) ?_
          refine r_aload_n C.1 C.2.1 dX5_fillRow_85 rfl (lv_at hl 1 rfl) ?_
          refine r_getR C hm flX5_31 dX5_fillRow_86 hh (fun x8 _ hh => ?_)
          refine r_len C hm dX5_fillRow_89 (kd := 20) (by decide) hh (fun x9 _ hh => ?_)
          refine lv_icmp_ge (tgt := 105) C.1 C.2.1 dX5_fillRow_90 (by decide) (fun c14 => ?_) (fun c14 => ?_)
          · rw [if_pos c14] at hh
            exact B105 _ ih _ _ _ _ _ _ _ _ _ _  hm hs (lv_sub hl [1, 2, 3, 4, 5, 6] rfl) hh
          · rw [if_neg c14] at hh
            refine r_aload_n C.1 C.2.1 dX5_fillRow_93 rfl (lv_at hl 1 rfl) ?_
            refine r_aload_n C.1 C.2.1 dX5_fillRow_94 rfl (lv_at hl 1 rfl) ?_
            refine r_getR C hm flX5_31 dX5_fillRow_95 hh (fun x10 _ hh => ?_)
            refine lv_iload C.1 C.2.1 dX5_fillRow_98 (lv_at hl 0 rfl) ?_
            refine r_ald C hm dX5_fillRow_100 hh (fun x11 _ hh => ?_)
            refine lv_iload_n C.1 C.2.1 dX5_fillRow_101 rfl (lv_at hl 4 rfl) ?_
            refine r_cV C X hm hs mlX5_59 mvX5_59 hh (vv := fun r => none) (hp := fun r => r) (fun b r hg => c_X5_takeFrom l G h b _ _ r hg) rfl rfl (Nat.le_of_ble_eq_true rfl) (Nat.le_of_ble_eq_true rfl) (Nat.le_of_ble_eq_true rfl) hl.1 dX5_fillRow_102 (fun b13 r12 H locs hgr12 hh hm hs => ?_)
            refine W.eq (g2 := F0 m 105 ls []) rfl ?_
            exact B105 _ ih _ _ _ _ _ _ _ _ _ _  hm hs (lv_sub hl [1, 2, 3, 4, 5, 6] rfl) hh
  unfold mX5_fillRow at hh
  refine r_aload_n C.1 C.2.1 dX5_fillRow_0 rfl (lv_at hl 0 rfl) ?_
  refine r_getR C hm flX5_34 dX5_fillRow_1 hh (fun x17 _ hh => ?_)
  refine lv_iload_n C.1 C.2.1 dX5_fillRow_4 rfl (lv_at hl 1 rfl) ?_
  refine r_aload_n C.1 C.2.1 dX5_fillRow_5 rfl (lv_at hl 0 rfl) ?_
  refine r_getR C hm flX5_34 dX5_fillRow_6 hh (fun x18 _ hh => ?_)
  refine r_getI C hm flX5_38 dX5_fillRow_9 hh (fun x19 _ hh => ?_)
  refine lv_iconst (v := 0) C.1 C.2.1 dX5_fillRow_12 (by decide) ?_
  refine r_aload_n C.1 C.2.1 dX5_fillRow_13 rfl (lv_at hl 0 rfl) ?_
  refine r_getR C hm flX5_15 dX5_fillRow_14 hh (fun x20 _ hh => ?_)
  refine r_cV C X hm hs mlX5_43 mvX5_43 hh (vv := fun r => none) (hp := fun r => r) (fun b r hg => c_X9_load l G h b _ _ _ _ r hg) rfl rfl (Nat.le_of_ble_eq_true rfl) (Nat.le_of_ble_eq_true rfl) (Nat.le_of_ble_eq_true rfl) hl.1 dX5_fillRow_17 (fun b22 r21 H locs hgr21 hh hm hs => ?_)
  refine W.eq (g2 := F0 m 20 ls []) rfl ?_
  refine r_aload_n C.1 C.2.1 dX5_fillRow_20 rfl (lv_at hl 0 rfl) ?_
  refine r_getR C hm flX5_34 dX5_fillRow_21 hh (fun x23 _ hh => ?_)
  refine r_getR C hm flX5_67 dX5_fillRow_24 hh (fun x24 _ hh => ?_)
  refine r_aload_n C.1 C.2.1 dX5_fillRow_27 rfl (lv_at hl 0 rfl) ?_
  refine r_getR C hm flX5_15 dX5_fillRow_28 hh (fun x25 _ hh => ?_)
  refine r_cV C X hm hs mlX5_71 mvX5_71 hh (vv := fun r => some (.int r)) (hp := fun r => r21) (fun b r hg => c_X1_gapsOf l G r21 b _ r hg) rfl rfl (Nat.le_of_ble_eq_true rfl) (Nat.le_of_ble_eq_true rfl) (Nat.le_of_ble_eq_true rfl) hl.1 dX5_fillRow_31 (fun b27 r26 H locs hgr26 hh hm hs => ?_)
  refine W.eq (g2 := F0 m 34 ls [.int r26]) rfl ?_
  refine lv_istore_n (i := 3) (lv' := [(3, .int r26), (0, va_rf (some a0)), (1, .int a1), (2, .int a2)]) C.1 C.2.1 dX5_fillRow_34 rfl hl (by decide) rfl (fun ls hl => ?_)
  refine r_aload_n C.1 C.2.1 dX5_fillRow_35 rfl (lv_at hl 1 rfl) ?_
  refine lv_iload_n C.1 C.2.1 dX5_fillRow_36 rfl (lv_at hl 2 rfl) ?_
  refine lv_iload_n C.1 C.2.1 dX5_fillRow_37 rfl (lv_at hl 0 rfl) ?_
  refine r_aload_n C.1 C.2.1 dX5_fillRow_38 rfl (lv_at hl 1 rfl) ?_
  refine r_getR C hm flX5_34 dX5_fillRow_39 hh (fun x28 _ hh => ?_)
  refine r_getR C hm flX5_67 dX5_fillRow_42 hh (fun x29 _ hh => ?_)
  refine r_cV C X hm hs mlX5_77 mvX5_77 hh (vv := fun r => some (.int r)) (hp := fun r => r21) (fun b r hg => c_X1_allFields l G r21 b  r hg) rfl rfl (by simp [va_cat, vc_i, vc_l, vc_r]) (Nat.le_of_ble_eq_true rfl) (Nat.le_of_ble_eq_true rfl) hl.1 dX5_fillRow_45 (fun b31 r30 H locs hgr30 hh hm hs => ?_)
  refine W.eq (g2 := F0 m 48 ls [.int r30, .int r26, .int a1, va_rf (some a0)]) rfl ?_
  refine r_cV C X hm hs mlX5_51 mvX5_51 hh (vv := fun r => some (.int r.1)) (hp := fun r => r.2) (fun b r hg => c_X5_gatherGivers l G r21 b _ _ _ r hg) rfl rfl (Nat.le_of_ble_eq_true rfl) (Nat.le_of_ble_eq_true rfl) (Nat.le_of_ble_eq_true rfl) hl.1 dX5_fillRow_48 (fun b33 r32 H locs hgr32 hh hm hs => ?_)
  refine W.eq (g2 := F0 m 51 ls [.int r32.1]) rfl ?_
  refine lv_istore (i := 4) (lv' := [(4, .int r32.1), (3, .int r26), (0, va_rf (some a0)), (1, .int a1), (2, .int a2)]) C.1 C.2.1 dX5_fillRow_51 hl (by decide) rfl (fun ls hl => ?_)
  refine lv_iload C.1 C.2.1 dX5_fillRow_53 (lv_at hl 0 rfl) ?_
  refine lv_if_gt (tgt := 60) C.1 C.2.1 dX5_fillRow_55 (by decide) (fun c34 => ?_) (fun c34 => ?_)
  · rw [if_pos c34] at hh
    refine lv_iconst (v := 0) C.1 C.2.1 dX5_fillRow_60 (by decide) ?_
    refine lv_istore (i := 5) (lv' := [(5, .int 0), (4, .int r32.1), (3, .int r26), (0, va_rf (some a0)), (1, .int a1), (2, .int a2)]) C.1 C.2.1 dX5_fillRow_61 hl (by decide) rfl (fun ls hl => ?_)
    exact B63 FUEL _ _ _ _ _ _ _ _ _ _  hm hs (lv_sub hl [3, 4, 5, 2, 1, 0] rfl) hh
  · rw [if_neg c34] at hh
    refine lv_iconst (v := 0) C.1 C.2.1 dX5_fillRow_58 (by decide) ?_
    exact r_iretW hQ C hr hm hs hh dX5_fillRow_59

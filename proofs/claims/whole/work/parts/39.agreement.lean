def mX0_init (h : MHp) (a0 : Nat) (a1 : Option Nat) : Option (MHp) := (pI 1 1 h (some a0) (-1)).bind fun h1 => (some (nA h1 20 3)).bind fun h2 => (pR 1 4 h2 (some a0) (some (hS h1))).bind fun h3 => (some (nA h3 21 3)).bind fun h4 => (pR 1 5 h4 (some a0) (some (hS h3))).bind fun h5 => (some (nA h5 21 3)).bind fun h6 => (pR 1 6 h6 (some a0) (some (hS h5))).bind fun h7 => (pR 1 0 h7 (some a0) a1).bind fun h8 => some h8
set_option maxRecDepth 100000 in
set_option maxHeartbeats 4000000 in
theorem c_X0_init (l : Launch) (G : Env0) (h : MHp) (a0 : Nat) (a1 : Option Nat) (res : MHp) (hh : mX0_init h a0 a1 = some res) : MG l yX0_init cX0_init 2 none 1 12 3 9 G h [.ref a0, va_rf a1] (none) (res) := by
  refine MG_of (own := RX0) (plainFor_of_name (by decide)) rfl (by simp [lg_sl, va_cat, vc_i, vc_l, vc_r]) ?_
  intro p e s m args below meth c Q ls hQ C X hin hm hs hl hr
  have hl : lv_has ls 2 [(0, .ref a0), (1, va_rf a1)] := by simpa [lv_args, va_cat, vc_i, vc_l, vc_r] using hl
  have hl : lv_has ls 2 [(0, va_rf (some a0)), (1, va_rf a1)] := hl
  unfold mX0_init at hh
  refine r_aload_n C.1 C.2.1 dX0_init_0 rfl (lv_at hl 0 rfl) ?_
  refine r_objInit C (in_tbl q_306 rfl) (in_tbl q_37 rfl) (in_tbl q_38 rfl) hl.1 dX0_init_1 (Nat.le_of_ble_eq_true rfl) (Nat.le_of_ble_eq_true rfl) ?_
  refine r_aload_n C.1 C.2.1 dX0_init_4 rfl (lv_at hl 0 rfl) ?_
  refine lv_iconst (v := (-1)) C.1 C.2.1 dX0_init_5 (by decide) ?_
  refine r_putI C hm hs flX0_9 (Or.inl fm_1_1) dX0_init_6 hh (fun h1 H locs _ hh hm hs => ?_)
  refine r_aload_n C.1 C.2.1 dX0_init_9 rfl (lv_at hl 0 rfl) ?_
  refine lv_iconst (v := 3) C.1 C.2.1 dX0_init_10 (by decide) ?_
  refine r_newaG C hm hs (kd := 20) (w := 4) (by decide) aw20 dX0_init_11 (N := 3) (by decide) (by decide) (by decide) hh (Nat.le_of_ble_eq_true rfl) (Nat.le_of_ble_eq_true rfl) (fun h2 H hh hm hs => ?_)
  refine r_putR C hm hs flX0_15 (Or.inr ⟨ffX0_15, hin rfl⟩) dX0_init_13 hh (fun h3 H locs _ hh hm hs => ?_)
  refine r_aload_n C.1 C.2.1 dX0_init_16 rfl (lv_at hl 0 rfl) ?_
  refine lv_iconst (v := 3) C.1 C.2.1 dX0_init_17 (by decide) ?_
  refine r_newaG C hm hs (kd := 21) (w := 8) (by decide) aw21 dX0_init_18 (N := 3) (by decide) (by decide) (by decide) hh (Nat.le_of_ble_eq_true rfl) (Nat.le_of_ble_eq_true rfl) (fun h4 H hh hm hs => ?_)
  refine r_putR C hm hs flX0_19 (Or.inr ⟨ffX0_19, hin rfl⟩) dX0_init_20 hh (fun h5 H locs _ hh hm hs => ?_)
  refine r_aload_n C.1 C.2.1 dX0_init_23 rfl (lv_at hl 0 rfl) ?_
  refine lv_iconst (v := 3) C.1 C.2.1 dX0_init_24 (by decide) ?_
  refine r_newaG C hm hs (kd := 21) (w := 8) (by decide) aw21 dX0_init_25 (N := 3) (by decide) (by decide) (by decide) hh (Nat.le_of_ble_eq_true rfl) (Nat.le_of_ble_eq_true rfl) (fun h6 H hh hm hs => ?_)
  refine r_putR C hm hs flX0_23 (Or.inr ⟨ffX0_23, hin rfl⟩) dX0_init_27 hh (fun h7 H locs _ hh hm hs => ?_)
  refine r_aload_n C.1 C.2.1 dX0_init_30 rfl (lv_at hl 0 rfl) ?_
  refine r_aload_n C.1 C.2.1 dX0_init_31 rfl (lv_at hl 1 rfl) ?_
  refine r_putR C hm hs flX0_26 (Or.inr ⟨ffX0_26, hin rfl⟩) dX0_init_32 hh (fun h8 H locs _ hh hm hs => ?_)
  refine W.widen (k := 3) (n := 9) (by omega) (by omega) ?_
  exact r_vretW hQ C hr hm hs hh dX0_init_35
def mX0_clear (h : MHp) (a0 : Nat) : Option (MHp) := (pI 1 1 h (some a0) (-1)).bind fun h1 => some h1
set_option maxRecDepth 100000 in
set_option maxHeartbeats 4000000 in
theorem c_X0_clear (l : Launch) (G : Env0) (h : MHp) (a0 : Nat) (res : MHp) (hh : mX0_clear h a0 = some res) : MG l yX0_clear cX0_clear 1 none 0 0 0 0 G h [.ref a0] (none) (res) := by
  refine MG_of (own := RX0) (plainFor_of_name (by decide)) rfl (Nat.le_of_ble_eq_true rfl) ?_
  intro p e s m args below meth c Q ls hQ C X hin hm hs hl hr
  have hl : lv_has ls 1 [(0, va_rf (some a0))] := hl
  unfold mX0_clear at hh
  refine r_aload_n C.1 C.2.1 dX0_clear_0 rfl (lv_at hl 0 rfl) ?_
  refine lv_iconst (v := (-1)) C.1 C.2.1 dX0_clear_1 (by decide) ?_
  refine r_putI C hm hs flX0_9 (Or.inl fm_1_1) dX0_clear_2 hh (fun h1 H locs _ hh hm hs => ?_)
  exact r_vretW hQ C hr hm hs hh dX0_clear_5
def mX0_know_b16 (h : MHp) (a0 : Nat) (v1 : Int32) (v2 : Int32) (v3 : Int32) : Option (MHp) := (pI 1 1 h (some a0) v1).bind fun h1 => (if v2 < 0 then some h1 else (gR 1 4 h1 (some a0)).bind fun x2 => (gN 20 h1 x2).bind fun x3 => (if x3 ≤ v2 then some h1 else (gR 1 4 h1 (some a0)).bind fun x4 => (pAI 20 h1 x4 v2 v3).bind fun h5 => some h5))
def mX0_know (h : MHp) (a0 : Nat) (a1 : Int32) (a2 : Int32) (a3 : Int32) : Option (MHp) := (gI 1 1 h (some a0)).bind fun x8 => (if a1 = x8 then mX0_know_b16 h a0 a1 a2 a3 else (gR 1 4 h (some a0)).bind fun x9 => (mJ7_fill_53178 h x9 0).bind fun r10 => mX0_know_b16 r10 a0 a1 a2 a3)
set_option maxRecDepth 100000 in
set_option maxHeartbeats 4000000 in
theorem c_X0_know (l : Launch) (G : Env0) (h : MHp) (a0 : Nat) (a1 : Int32) (a2 : Int32) (a3 : Int32) (res : MHp) (hh : mX0_know h a0 a1 a2 a3 = some res) : MG l yX0_know cX0_know 4 none 1 23 0 0 G h [.ref a0, .int a1, .int a2, .int a3] (none) (res) := by
  refine MG_of (own := RX0) (plainFor_of_name (by decide)) rfl (Nat.le_of_ble_eq_true rfl) ?_
  intro p e s m args below meth c Q ls hQ C X hin hm hs hl hr
  have hl : lv_has ls 4 [(0, va_rf (some a0)), (1, .int a1), (2, .int a2), (3, .int a3)] := hl
  have B16 : ∀ (h : MHp) (H : Heap) (locs : List Loc) (ls : Array Slot) (a0 : Nat) (v1 : Int32) (v2 : Int32) (v3 : Int32) , mHp (gD G) (gC G) (gB G) h H → va_S (fun q => gB G ≤ q) s.heap H locs → lv_has ls 4 [(0, va_rf (some a0)), (1, .int v1), (2, .int v2), (3, .int v3)] → mX0_know_b16 h a0 v1 v2 v3 = some res → W p l e ({ frames := 1, cells := 0, slots := 0, locals := 23 }) s m args below meth c H locs 0 0 Q (F0 m 16 ls []) := by
    intro h H locs ls a0 v1 v2 v3 hm hs hl hh
    unfold mX0_know_b16 at hh
    refine r_aload_n C.1 C.2.1 dX0_know_16 rfl (lv_at hl 0 rfl) ?_
    refine lv_iload_n C.1 C.2.1 dX0_know_17 rfl (lv_at hl 1 rfl) ?_
    refine r_putI C hm hs flX0_9 (Or.inl fm_1_1) dX0_know_18 hh (fun h1 H locs _ hh hm hs => ?_)
    refine lv_iload_n C.1 C.2.1 dX0_know_21 rfl (lv_at hl 2 rfl) ?_
    refine lv_if_lt (tgt := 41) C.1 C.2.1 dX0_know_22 (by decide) (fun c7 => ?_) (fun c7 => ?_)
    · rw [if_pos c7] at hh
      exact r_vretW hQ C hr hm hs hh dX0_know_41
    · rw [if_neg c7] at hh
      refine lv_iload_n C.1 C.2.1 dX0_know_25 rfl (lv_at hl 2 rfl) ?_
      refine r_aload_n C.1 C.2.1 dX0_know_26 rfl (lv_at hl 0 rfl) ?_
      refine r_getR C hm flX0_15 dX0_know_27 hh (fun x2 _ hh => ?_)
      refine r_len C hm dX0_know_30 (kd := 20) (by decide) hh (fun x3 _ hh => ?_)
      refine lv_icmp_ge (tgt := 41) C.1 C.2.1 dX0_know_31 (by decide) (fun c6 => ?_) (fun c6 => ?_)
      · rw [if_pos c6] at hh
        exact r_vretW hQ C hr hm hs hh dX0_know_41
      · rw [if_neg c6] at hh
        refine r_aload_n C.1 C.2.1 dX0_know_34 rfl (lv_at hl 0 rfl) ?_
        refine r_getR C hm flX0_15 dX0_know_35 hh (fun x4 _ hh => ?_)
        refine lv_iload_n C.1 C.2.1 dX0_know_38 rfl (lv_at hl 2 rfl) ?_
        refine lv_iload_n C.1 C.2.1 dX0_know_39 rfl (lv_at hl 3 rfl) ?_
        refine r_ast C hm hs dX0_know_40 hh (fun h5 H locs _ hh hm hs => ?_)
        exact r_vretW hQ C hr hm hs hh dX0_know_41
  unfold mX0_know at hh
  refine lv_iload_n C.1 C.2.1 dX0_know_0 rfl (lv_at hl 1 rfl) ?_
  refine r_aload_n C.1 C.2.1 dX0_know_1 rfl (lv_at hl 0 rfl) ?_
  refine r_getI C hm flX0_9 dX0_know_2 hh (fun x8 _ hh => ?_)
  refine lv_icmp_eq (tgt := 16) C.1 C.2.1 dX0_know_5 (by decide) (fun c11 => ?_) (fun c11 => ?_)
  · rw [if_pos c11] at hh
    exact B16 _ _ _ _ _ _ _ _  hm hs (lv_sub hl [0, 1, 2, 3] rfl) hh
  · rw [if_neg c11] at hh
    refine r_aload_n C.1 C.2.1 dX0_know_8 rfl (lv_at hl 0 rfl) ?_
    refine r_getR C hm flX0_15 dX0_know_9 hh (fun x9 _ hh => ?_)
    refine lv_iconst (v := 0) C.1 C.2.1 dX0_know_12 (by decide) ?_
    refine r_cS C X hm hs mlX0_30 msX0_30 hh (vv := fun r => none) (hp := fun r => r) (fun r hg => c_J7_fill_53178 l G h _ _ r hg) rfl rfl (Nat.le_of_ble_eq_true rfl) (Nat.le_of_ble_eq_true rfl) (Nat.le_of_ble_eq_true rfl) hl.1 dX0_know_13 (fun r10 H locs hgr10 hh hm hs => ?_)
    refine W.eq (g2 := F0 m 16 ls []) rfl ?_
    exact B16 _ _ _ _ _ _ _ _  hm hs (lv_sub hl [0, 1, 2, 3] rfl) hh
def mX0_commonDivisor_l3 (h : MHp) : Nat → Int64 → Int64 → Int32 → Option (Int64)
  | 0, _, _, _ => none
  | n + 1, v0, v2, v4 => (if 1000000 ≤ v4 then some v0 else (if (lg_cmp v2 0) = 0 then some v0 else (nzL v2).bind fun _ => mX0_commonDivisor_l3 h n v2 (v0 - v0 / v2 * v2) (v4 + 1)))
def mX0_commonDivisor (h : MHp) (a0 : Int64) (a1 : Int64) : Option (Int64) := mX0_commonDivisor_l3 h FUEL a0 a1 0
set_option maxRecDepth 100000 in
set_option maxHeartbeats 4000000 in
theorem c_X0_commonDivisor (l : Launch) (G : Env0) (h : MHp) (a0 : Int64) (a1 : Int64) (res : Int64) (hh : mX0_commonDivisor h a0 a1 = some res) : MG l yX0_commonDivisor cX0_commonDivisor 7 (some .long) 0 0 0 0 G h [.long a0, .long a1] (some (.long res)) (h) := by
  refine MG_of (own := RX0) (plainFor_of_name (by decide)) rfl (Nat.le_of_ble_eq_true rfl) ?_
  intro p e s m args below meth c Q ls hQ C X hin hm hs hl hr
  have hl : lv_has ls 7 [(0, .long a0), (2, .long a1)] := hl
  have B3 : ∀ n : Nat, ∀ (H : Heap) (locs : List Loc) (ls : Array Slot) (v0 : Int64) (v2 : Int64) (v4 : Int32) , mHp (gD G) (gC G) (gB G) h H → va_S (fun q => gB G ≤ q) s.heap H locs → lv_has ls 7 [(0, .long v0), (2, .long v2), (4, .int v4)] → mX0_commonDivisor_l3 h n v0 v2 v4 = some res → W p l e ({ frames := 0, cells := 0, slots := 0, locals := 0 }) s m args below meth c H locs 0 0 Q (F0 m 3 ls []) := by
    intro n
    induction n with
    | zero => intro H locs ls v0 v2 v4 hm hs hl hh; cases hh
    | succ n ih =>
      intro H locs ls v0 v2 v4 hm hs hl hh
      unfold mX0_commonDivisor_l3 at hh
      refine lv_iload C.1 C.2.1 dX0_commonDivisor_3 (lv_at hl 2 rfl) ?_
      refine lv_ldc (v := 1000000) C.1 C.2.1 C.2.2.2.1 (C.2.2.2.2.1 _ (in_tbl q_972 rfl)) dX0_commonDivisor_5 ?_
      refine lv_icmp_ge (tgt := 32) C.1 C.2.1 dX0_commonDivisor_7 (by decide) (fun c2 => ?_) (fun c2 => ?_)
      · rw [if_pos c2] at hh
        refine lv_lload_n C.1 C.2.1 dX0_commonDivisor_32 rfl (lv_at hl 0 rfl) ?_
        exact r_lretP hQ C hr hm hs hh dX0_commonDivisor_33
      · rw [if_neg c2] at hh
        refine lv_lload_n C.1 C.2.1 dX0_commonDivisor_10 rfl (lv_at hl 1 rfl) ?_
        refine lv_lconst (v := 0) C.1 C.2.1 dX0_commonDivisor_11 (by decide) ?_
        refine W.lcmp C.1 C.2.1 dX0_commonDivisor_12 ?_
        refine lv_if_eq (tgt := 32) C.1 C.2.1 dX0_commonDivisor_13 (by decide) (fun c1 => ?_) (fun c1 => ?_)
        · rw [if_pos c1] at hh
          refine lv_lload_n C.1 C.2.1 dX0_commonDivisor_32 rfl (lv_at hl 0 rfl) ?_
          exact r_lretP hQ C hr hm hs hh dX0_commonDivisor_33
        · rw [if_neg c1] at hh
          refine lv_lload_n C.1 C.2.1 dX0_commonDivisor_16 rfl (lv_at hl 0 rfl) ?_
          refine lv_lload_n C.1 C.2.1 dX0_commonDivisor_17 rfl (lv_at hl 1 rfl) ?_
          refine r_lrem C dX0_commonDivisor_18 hh (fun _ hh => ?_)
          refine lv_lstore (i := 5) (lv' := [(5, .long (v0 - v0 / v2 * v2)), (0, .long v0), (2, .long v2), (4, .int v4)]) C.1 C.2.1 dX0_commonDivisor_19 hl (by decide) rfl (fun ls hl => ?_)
          refine lv_lload_n C.1 C.2.1 dX0_commonDivisor_21 rfl (lv_at hl 2 rfl) ?_
          refine lv_lstore_n (i := 0) (lv' := [(0, .long v2), (5, .long (v0 - v0 / v2 * v2)), (2, .long v2), (4, .int v4)]) C.1 C.2.1 dX0_commonDivisor_22 rfl hl (by decide) rfl (fun ls hl => ?_)
          refine lv_lload C.1 C.2.1 dX0_commonDivisor_23 (lv_at hl 1 rfl) ?_
          refine lv_lstore_n (i := 2) (lv' := [(2, .long (v0 - v0 / v2 * v2)), (0, .long v2), (5, .long (v0 - v0 / v2 * v2)), (4, .int v4)]) C.1 C.2.1 dX0_commonDivisor_25 rfl hl (by decide) rfl (fun ls hl => ?_)
          refine lv_iinc (v := (v4 + 1)) (lv' := [(4, .int (v4 + 1)), (2, .long (v0 - v0 / v2 * v2)), (0, .long v2), (5, .long (v0 - v0 / v2 * v2))]) C.1 C.2.1 dX0_commonDivisor_26 hl (k := 3) rfl rfl (by decide) rfl (fun ls hl => ?_)
          refine lv_goto (tgt := 3) C.1 C.2.1 dX0_commonDivisor_29 (by decide) ?_
          exact ih _ _ _ _ _ _  hm hs (lv_sub hl [2, 1, 0] rfl) hh
  unfold mX0_commonDivisor at hh
  refine lv_iconst (v := 0) C.1 C.2.1 dX0_commonDivisor_0 (by decide) ?_
  refine lv_istore (i := 4) (lv' := [(4, .int 0), (0, .long a0), (2, .long a1)]) C.1 C.2.1 dX0_commonDivisor_1 hl (by decide) rfl (fun ls hl => ?_)
  exact B3 FUEL _ _ _ _ _ _  hm hs (lv_sub hl [1, 2, 0] rfl) hh
def mX0_add (h : MHp) (a0 : Nat) (a1 : Int64) (a2 : Int64) : Option (MHp) := (gL 1 2 h (some a0)).bind fun x1 => (gL 1 3 h (some a0)).bind fun x2 => (gL 1 3 h (some a0)).bind fun x3 => (mX0_commonDivisor h ((x1 * a2) + (a1 * x2)) (x3 * a2)).bind fun r4 => (if (lg_cmp r4 0) ≤ 0 then some h else (nzL r4).bind fun _ => (pL 1 2 h (some a0) (((x1 * a2) + (a1 * x2)) / r4)).bind fun h5 => (nzL r4).bind fun _ => (pL 1 3 h5 (some a0) ((x3 * a2) / r4)).bind fun h6 => some h6)
set_option maxRecDepth 100000 in
set_option maxHeartbeats 4000000 in
theorem c_X0_add (l : Launch) (G : Env0) (h : MHp) (a0 : Nat) (a1 : Int64) (a2 : Int64) (res : MHp) (hh : mX0_add h a0 a1 a2 = some res) : MG l yX0_add cX0_add 11 none 1 26 0 0 G h [.ref a0, .long a1, .long a2] (none) (res) := by
  refine MG_of (own := RX0) (plainFor_of_name (by decide)) rfl (Nat.le_of_ble_eq_true rfl) ?_
  intro p e s m args below meth c Q ls hQ C X hin hm hs hl hr
  have hl : lv_has ls 11 [(0, va_rf (some a0)), (1, .long a1), (3, .long a2)] := hl
  unfold mX0_add at hh
  refine r_aload_n C.1 C.2.1 dX0_add_0 rfl (lv_at hl 0 rfl) ?_
  refine r_getL C hm flX0_40 dX0_add_1 hh (fun x1 _ hh => ?_)
  refine lv_lload_n C.1 C.2.1 dX0_add_4 rfl (lv_at hl 2 rfl) ?_
  refine lv_lmul C.1 C.2.1 dX0_add_5 ?_
  refine lv_lload_n C.1 C.2.1 dX0_add_6 rfl (lv_at hl 1 rfl) ?_
  refine r_aload_n C.1 C.2.1 dX0_add_7 rfl (lv_at hl 0 rfl) ?_
  refine r_getL C hm flX0_44 dX0_add_8 hh (fun x2 _ hh => ?_)
  refine lv_lmul C.1 C.2.1 dX0_add_11 ?_
  refine lv_ladd C.1 C.2.1 dX0_add_12 ?_
  refine lv_lstore (i := 5) (lv' := [(5, .long ((x1 * a2) + (a1 * x2))), (0, va_rf (some a0)), (1, .long a1), (3, .long a2)]) C.1 C.2.1 dX0_add_13 hl (by decide) rfl (fun ls hl => ?_)
  refine r_aload_n C.1 C.2.1 dX0_add_15 rfl (lv_at hl 1 rfl) ?_
  refine r_getL C hm flX0_44 dX0_add_16 hh (fun x3 _ hh => ?_)
  refine lv_lload_n C.1 C.2.1 dX0_add_19 rfl (lv_at hl 3 rfl) ?_
  refine lv_lmul C.1 C.2.1 dX0_add_20 ?_
  refine lv_lstore (i := 7) (lv' := [(7, .long (x3 * a2)), (5, .long ((x1 * a2) + (a1 * x2))), (0, va_rf (some a0)), (1, .long a1), (3, .long a2)]) C.1 C.2.1 dX0_add_21 hl (by decide) rfl (fun ls hl => ?_)
  refine lv_lload C.1 C.2.1 dX0_add_23 (lv_at hl 1 rfl) ?_
  refine lv_lload C.1 C.2.1 dX0_add_25 (lv_at hl 0 rfl) ?_
  refine r_cS C X hm hs mlX0_91 msX0_91 hh (vv := fun r => some (.long r)) (hp := fun r => h) (fun r hg => c_X0_commonDivisor l G h _ _ r hg) rfl rfl (Nat.le_of_ble_eq_true rfl) (Nat.le_of_ble_eq_true rfl) (Nat.le_of_ble_eq_true rfl) hl.1 dX0_add_27 (fun r4 H locs hgr4 hh hm hs => ?_)
  refine W.eq (g2 := F0 m 30 ls [.long r4]) rfl ?_
  refine lv_lstore (i := 9) (lv' := [(9, .long r4), (7, .long (x3 * a2)), (5, .long ((x1 * a2) + (a1 * x2))), (0, va_rf (some a0)), (1, .long a1), (3, .long a2)]) C.1 C.2.1 dX0_add_30 hl (by decide) rfl (fun ls hl => ?_)
  refine lv_lload C.1 C.2.1 dX0_add_32 (lv_at hl 0 rfl) ?_
  refine lv_lconst (v := 0) C.1 C.2.1 dX0_add_34 (by decide) ?_
  refine W.lcmp C.1 C.2.1 dX0_add_35 ?_
  refine lv_if_le (tgt := 57) C.1 C.2.1 dX0_add_36 (by decide) (fun c7 => ?_) (fun c7 => ?_)
  · rw [if_pos c7] at hh
    exact r_vretW hQ C hr hm hs hh dX0_add_57
  · rw [if_neg c7] at hh
    refine r_aload_n C.1 C.2.1 dX0_add_39 rfl (lv_at hl 3 rfl) ?_
    refine lv_lload C.1 C.2.1 dX0_add_40 (lv_at hl 2 rfl) ?_
    refine lv_lload C.1 C.2.1 dX0_add_42 (lv_at hl 0 rfl) ?_
    refine r_ldiv C dX0_add_44 hh (fun _ hh => ?_)
    refine r_putL C hm hs flX0_40 (Or.inl fm_1_2) dX0_add_45 hh (fun h5 H locs _ hh hm hs => ?_)
    refine r_aload_n C.1 C.2.1 dX0_add_48 rfl (lv_at hl 3 rfl) ?_
    refine lv_lload C.1 C.2.1 dX0_add_49 (lv_at hl 1 rfl) ?_
    refine lv_lload C.1 C.2.1 dX0_add_51 (lv_at hl 0 rfl) ?_
    refine r_ldiv C dX0_add_53 hh (fun _ hh => ?_)
    refine r_putL C hm hs flX0_44 (Or.inl fm_1_3) dX0_add_54 hh (fun h6 H locs _ hh hm hs => ?_)
    exact r_vretW hQ C hr hm hs hh dX0_add_57
def mX0_sumWeights_b159 (k27 : MHp → Nat → Option Nat → Int32 → Option Nat → Int32 → Option (MHp)) (h : MHp) (a0 : Nat) (v1 : Option Nat) (v2 : Int32) (v3 : Option Nat) (v4 : Int32) : Option (MHp) := k27 h a0 v1 v2 v3 (v4 + 1)
def mX0_sumWeights_b78 (k27 : MHp → Nat → Option Nat → Int32 → Option Nat → Int32 → Option (MHp)) (h : MHp) (a0 : Nat) (v1 : Option Nat) (v2 : Int32) (v3 : Option Nat) (v4 : Int32) (t0 : Int32) : Option (MHp) := (if t0 < 0 then mX0_sumWeights_b159 k27 h a0 v1 v2 v3 v4 else (gR 1 5 h (some a0)).bind fun x1 => (gN 21 h x1).bind fun x2 => (if x2 ≤ t0 then mX0_sumWeights_b159 k27 h a0 v1 v2 v3 v4 else (gR 1 5 h (some a0)).bind fun x3 => (gAL 21 h x3 t0).bind fun x4 => (gR 10 4 h v3).bind fun x5 => (gAI 20 h x5 v4).bind fun x6 => (pAL 21 h x3 t0 (x4 + x6.toInt64)).bind fun h7 => (gR 1 0 h7 (some a0)).bind fun x8 => (gR 3 1 h7 x8).bind fun x9 => (rcv 8 h7 v1).bind fun b11 => (mX7_cellOf h7 b11 x9).bind fun r10 => (if r10 = v2 then (gR 1 6 h7 (some a0)).bind fun x12 => (gAL 21 h7 x12 t0).bind fun x13 => (gR 10 4 h7 v3).bind fun x14 => (gAI 20 h7 x14 v4).bind fun x15 => (gR 1 0 h7 (some a0)).bind fun x16 => (gR 3 1 h7 x16).bind fun x17 => (rcv 8 h7 v1).bind fun b19 => (mX7_timesOf h7 b19 x17).bind fun r18 => (pAL 21 h7 x12 t0 (x13 + (x15.toInt64 * r18.toInt64))).bind fun h20 => mX0_sumWeights_b159 k27 h20 a0 v1 v2 v3 v4 else mX0_sumWeights_b159 k27 h7 a0 v1 v2 v3 v4)))
def mX0_sumWeights_l27 : Nat → MHp → Nat → Option Nat → Int32 → Option Nat → Int32 → Option (MHp)
  | 0, _, _, _, _, _, _ => none
  | n + 1, h, a0, v1, v2, v3, v4 => (gI 10 6 h v3).bind fun x24 => (if x24 ≤ v4 then some h else (if 60 ≤ v4 then some h else (gR 1 0 h (some a0)).bind fun x25 => (gI 10 7 h v3).bind fun x26 => (rcv 3 h x25).bind fun b28 => (mX2_looksAt h b28 v4 x26 0).bind fun r27 => (if r27.1 = 0 then mX0_sumWeights_b78 (mX0_sumWeights_l27 n) r27.2 a0 v1 v2 v3 v4 (-1) else (gR 1 0 r27.2 (some a0)).bind fun x29 => (gR 3 1 r27.2 x29).bind fun x30 => (gI 1 1 r27.2 (some a0)).bind fun x31 => (mX11_valueIn r27.2 x30 x31).bind fun r32 => mX0_sumWeights_b78 (mX0_sumWeights_l27 n) r27.2 a0 v1 v2 v3 v4 r32)))
def mX0_sumWeights (h : MHp) (a0 : Nat) (a1 : Option Nat) (a2 : Int32) : Option (MHp) := (gR 1 5 h (some a0)).bind fun x36 => (mJ7_fill_d0a16 h x36 0).bind fun r37 => (gR 1 6 r37 (some a0)).bind fun x38 => (mJ7_fill_d0a16 r37 x38 0).bind fun r39 => (gR 1 0 r39 (some a0)).bind fun x40 => (gR 3 0 r39 x40).bind fun x41 => mX0_sumWeights_l27 FUEL r39 a0 a1 a2 x41 0
set_option maxRecDepth 100000 in
set_option maxHeartbeats 4000000 in
theorem c_X0_sumWeights (l : Launch) (G : Env0) (h : MHp) (a0 : Nat) (a1 : Option Nat) (a2 : Int32) (res : MHp) (hh : mX0_sumWeights h a0 a1 a2 = some res) : MG l yX0_sumWeights cX0_sumWeights 6 none 4 96 0 0 G h [.ref a0, va_rf a1, .int a2] (none) (res) := by
  refine MG_of (own := RX0) (plainFor_of_name (by decide)) rfl (by simp [lg_sl, va_cat, vc_i, vc_l, vc_r]) ?_
  intro p e s m args below meth c Q ls hQ C X hin hm hs hl hr
  have hl : lv_has ls 6 [(0, .ref a0), (1, va_rf a1), (2, .int a2)] := by simpa [lv_args, va_cat, vc_i, vc_l, vc_r] using hl
  have hl : lv_has ls 6 [(0, va_rf (some a0)), (1, va_rf a1), (2, .int a2)] := hl
  have B159 : ∀ (k27 : MHp → Nat → Option Nat → Int32 → Option Nat → Int32 → Option (MHp)), (∀ (h : MHp) (H : Heap) (locs : List Loc) (ls : Array Slot) (a0 : Nat) (v1 : Option Nat) (v2 : Int32) (v3 : Option Nat) (v4 : Int32) , mHp (gD G) (gC G) (gB G) h H → va_S (fun q => gB G ≤ q) s.heap H locs → lv_has ls 6 [(0, va_rf (some a0)), (1, va_rf v1), (2, .int v2), (3, va_rf v3), (4, .int v4)] → k27 h a0 v1 v2 v3 v4 = some res → W p l e ({ frames := 4, cells := 0, slots := 0, locals := 96 }) s m args below meth c H locs 0 0 Q (F0 m 27 ls [])) → ∀ (h : MHp) (H : Heap) (locs : List Loc) (ls : Array Slot) (a0 : Nat) (v1 : Option Nat) (v2 : Int32) (v3 : Option Nat) (v4 : Int32) , mHp (gD G) (gC G) (gB G) h H → va_S (fun q => gB G ≤ q) s.heap H locs → lv_has ls 6 [(0, va_rf (some a0)), (1, va_rf v1), (2, .int v2), (3, va_rf v3), (4, .int v4)] → mX0_sumWeights_b159 k27 h a0 v1 v2 v3 v4 = some res → W p l e ({ frames := 4, cells := 0, slots := 0, locals := 96 }) s m args below meth c H locs 0 0 Q (F0 m 159 ls []) := by
    intro k27 hk27 h H locs ls a0 v1 v2 v3 v4 hm hs hl hh
    unfold mX0_sumWeights_b159 at hh
    refine lv_iinc (v := (v4 + 1)) (lv' := [(4, .int (v4 + 1)), (0, va_rf (some a0)), (1, va_rf v1), (2, .int v2), (3, va_rf v3)]) C.1 C.2.1 dX0_sumWeights_159 hl (k := 4) rfl rfl (by decide) (by simp [va_cat, vc_i, vc_l, vc_r]) (fun ls hl => ?_)
    refine lv_goto (tgt := 27) C.1 C.2.1 dX0_sumWeights_162 (by decide) ?_
    exact hk27 _ _ _ _ _ _ _ _ _  hm hs (lv_sub hl [1, 2, 3, 4, 0] rfl) hh
  have B78 : ∀ (k27 : MHp → Nat → Option Nat → Int32 → Option Nat → Int32 → Option (MHp)), (∀ (h : MHp) (H : Heap) (locs : List Loc) (ls : Array Slot) (a0 : Nat) (v1 : Option Nat) (v2 : Int32) (v3 : Option Nat) (v4 : Int32) , mHp (gD G) (gC G) (gB G) h H → va_S (fun q => gB G ≤ q) s.heap H locs → lv_has ls 6 [(0, va_rf (some a0)), (1, va_rf v1), (2, .int v2), (3, va_rf v3), (4, .int v4)] → k27 h a0 v1 v2 v3 v4 = some res → W p l e ({ frames := 4, cells := 0, slots := 0, locals := 96 }) s m args below meth c H locs 0 0 Q (F0 m 27 ls [])) → ∀ (h : MHp) (H : Heap) (locs : List Loc) (ls : Array Slot) (a0 : Nat) (v1 : Option Nat) (v2 : Int32) (v3 : Option Nat) (v4 : Int32) (t0 : Int32) , mHp (gD G) (gC G) (gB G) h H → va_S (fun q => gB G ≤ q) s.heap H locs → lv_has ls 6 [(0, va_rf (some a0)), (1, va_rf v1), (2, .int v2), (3, va_rf v3), (4, .int v4)] → mX0_sumWeights_b78 k27 h a0 v1 v2 v3 v4 t0 = some res → W p l e ({ frames := 4, cells := 0, slots := 0, locals := 96 }) s m args below meth c H locs 0 0 Q (F0 m 78 ls [.int t0]) := by
    intro k27 hk27 h H locs ls a0 v1 v2 v3 v4 t0 hm hs hl hh
    unfold mX0_sumWeights_b78 at hh
    refine lv_istore (i := 5) (lv' := [(5, .int t0), (0, va_rf (some a0)), (1, va_rf v1), (2, .int v2), (3, va_rf v3), (4, .int v4)]) C.1 C.2.1 dX0_sumWeights_78 hl (by decide) rfl (fun ls hl => ?_)
    refine lv_iload C.1 C.2.1 dX0_sumWeights_80 (lv_at hl 0 rfl) ?_
    refine lv_if_lt (tgt := 159) C.1 C.2.1 dX0_sumWeights_82 (by decide) (fun c23 => ?_) (fun c23 => ?_)
    · rw [if_pos c23] at hh
      exact B159 _ hk27 _ _ _ _ _ _ _ _ _  hm hs (lv_sub hl [1, 2, 3, 4, 5] rfl) hh
    · rw [if_neg c23] at hh
      refine lv_iload C.1 C.2.1 dX0_sumWeights_85 (lv_at hl 0 rfl) ?_
      refine r_aload_n C.1 C.2.1 dX0_sumWeights_87 rfl (lv_at hl 1 rfl) ?_
      refine r_getR C hm flX0_19 dX0_sumWeights_88 hh (fun x1 _ hh => ?_)
      refine r_len C hm dX0_sumWeights_91 (kd := 21) (by decide) hh (fun x2 _ hh => ?_)
      refine lv_icmp_ge (tgt := 159) C.1 C.2.1 dX0_sumWeights_92 (by decide) (fun c22 => ?_) (fun c22 => ?_)
      · rw [if_pos c22] at hh
        exact B159 _ hk27 _ _ _ _ _ _ _ _ _  hm hs (lv_sub hl [1, 2, 3, 4, 5] rfl) hh
      · rw [if_neg c22] at hh
        refine r_aload_n C.1 C.2.1 dX0_sumWeights_95 rfl (lv_at hl 1 rfl) ?_
        refine r_getR C hm flX0_19 dX0_sumWeights_96 hh (fun x3 _ hh => ?_)
        refine lv_iload C.1 C.2.1 dX0_sumWeights_99 (lv_at hl 0 rfl) ?_
        refine lv_dup2_11 C.1 C.2.1 dX0_sumWeights_101 rfl (va_cat _) ?_
        refine r_lald C hm dX0_sumWeights_102 hh (fun x4 _ hh => ?_)
        refine r_aload_n C.1 C.2.1 dX0_sumWeights_103 rfl (lv_at hl 4 rfl) ?_
        refine r_getR C hm flX0_79 dX0_sumWeights_104 hh (fun x5 _ hh => ?_)
        refine lv_iload C.1 C.2.1 dX0_sumWeights_107 (lv_at hl 5 rfl) ?_
        refine r_ald C hm dX0_sumWeights_109 hh (fun x6 _ hh => ?_)
        refine lv_i2l (v := x6.toInt64) C.1 C.2.1 dX0_sumWeights_110 rfl ?_
        refine lv_ladd C.1 C.2.1 dX0_sumWeights_111 ?_
        refine r_last C hm hs dX0_sumWeights_112 hh (fun h7 H locs _ hh hm hs => ?_)
        refine r_aload_n C.1 C.2.1 dX0_sumWeights_113 rfl (lv_at hl 2 rfl) ?_
        refine r_aload_n C.1 C.2.1 dX0_sumWeights_114 rfl (lv_at hl 1 rfl) ?_
        refine r_getR C hm flX0_26 dX0_sumWeights_115 hh (fun x8 _ hh => ?_)
        refine r_getR C hm flX0_72 dX0_sumWeights_118 hh (fun x9 _ hh => ?_)
        refine r_cV C X hm hs mlX0_82 mvX0_82 hh (vv := fun r => some (.int r)) (hp := fun r => h7) (fun b r hg => c_X7_cellOf l G h7 b _ r hg) rfl rfl (Nat.le_of_ble_eq_true rfl) (Nat.le_of_ble_eq_true rfl) (Nat.le_of_ble_eq_true rfl) hl.1 dX0_sumWeights_121 (fun b11 r10 H locs hgr10 hh hm hs => ?_)
        refine W.eq (g2 := F0 m 124 ls [.int r10]) rfl ?_
        refine lv_iload_n C.1 C.2.1 dX0_sumWeights_124 rfl (lv_at hl 3 rfl) ?_
        refine lv_icmp_ne (tgt := 159) C.1 C.2.1 dX0_sumWeights_125 (by decide) (fun c21 => ?_) (fun c21 => ?_)
        · rw [if_neg c21] at hh
          exact B159 _ hk27 _ _ _ _ _ _ _ _ _  hm hs (lv_sub hl [1, 2, 3, 4, 5] rfl) hh
        · rw [if_pos c21] at hh
          refine r_aload_n C.1 C.2.1 dX0_sumWeights_128 rfl (lv_at hl 1 rfl) ?_
          refine r_getR C hm flX0_23 dX0_sumWeights_129 hh (fun x12 _ hh => ?_)
          refine lv_iload C.1 C.2.1 dX0_sumWeights_132 (lv_at hl 0 rfl) ?_
          refine lv_dup2_11 C.1 C.2.1 dX0_sumWeights_134 rfl (va_cat _) ?_
          refine r_lald C hm dX0_sumWeights_135 hh (fun x13 _ hh => ?_)
          refine r_aload_n C.1 C.2.1 dX0_sumWeights_136 rfl (lv_at hl 4 rfl) ?_
          refine r_getR C hm flX0_79 dX0_sumWeights_137 hh (fun x14 _ hh => ?_)
          refine lv_iload C.1 C.2.1 dX0_sumWeights_140 (lv_at hl 5 rfl) ?_
          refine r_ald C hm dX0_sumWeights_142 hh (fun x15 _ hh => ?_)
          refine lv_i2l (v := x15.toInt64) C.1 C.2.1 dX0_sumWeights_143 rfl ?_
          refine r_aload_n C.1 C.2.1 dX0_sumWeights_144 rfl (lv_at hl 2 rfl) ?_
          refine r_aload_n C.1 C.2.1 dX0_sumWeights_145 rfl (lv_at hl 1 rfl) ?_
          refine r_getR C hm flX0_26 dX0_sumWeights_146 hh (fun x16 _ hh => ?_)
          refine r_getR C hm flX0_72 dX0_sumWeights_149 hh (fun x17 _ hh => ?_)
          refine r_cV C X hm hs mlX0_88 mvX0_88 hh (vv := fun r => some (.int r)) (hp := fun r => h7) (fun b r hg => c_X7_timesOf l G h7 b _ r hg) rfl rfl (by simp [va_cat, vc_i, vc_l, vc_r]) (Nat.le_of_ble_eq_true rfl) (Nat.le_of_ble_eq_true rfl) hl.1 dX0_sumWeights_152 (fun b19 r18 H locs hgr18 hh hm hs => ?_)
          refine W.eq (g2 := F0 m 155 ls [.int r18, .long x15.toInt64, .long x13, .int t0, va_rf x12]) rfl ?_
          refine lv_i2l (v := r18.toInt64) C.1 C.2.1 dX0_sumWeights_155 rfl ?_
          refine lv_lmul C.1 C.2.1 dX0_sumWeights_156 ?_
          refine lv_ladd C.1 C.2.1 dX0_sumWeights_157 ?_
          refine r_last C hm hs dX0_sumWeights_158 hh (fun h20 H locs _ hh hm hs => ?_)
          exact B159 _ hk27 _ _ _ _ _ _ _ _ _  hm hs (lv_sub hl [1, 2, 3, 4, 5] rfl) hh
  have B27 : ∀ n : Nat, ∀ (h : MHp) (H : Heap) (locs : List Loc) (ls : Array Slot) (a0 : Nat) (v1 : Option Nat) (v2 : Int32) (v3 : Option Nat) (v4 : Int32) , mHp (gD G) (gC G) (gB G) h H → va_S (fun q => gB G ≤ q) s.heap H locs → lv_has ls 6 [(0, va_rf (some a0)), (1, va_rf v1), (2, .int v2), (3, va_rf v3), (4, .int v4)] → mX0_sumWeights_l27 n h a0 v1 v2 v3 v4 = some res → W p l e ({ frames := 4, cells := 0, slots := 0, locals := 96 }) s m args below meth c H locs 0 0 Q (F0 m 27 ls []) := by
    intro n
    induction n with
    | zero => intro h H locs ls a0 v1 v2 v3 v4 hm hs hl hh; cases hh
    | succ n ih =>
      intro h H locs ls a0 v1 v2 v3 v4 hm hs hl hh
      unfold mX0_sumWeights_l27 at hh
      refine lv_iload C.1 C.2.1 dX0_sumWeights_27 (lv_at hl 4 rfl) ?_
      refine r_aload_n C.1 C.2.1 dX0_sumWeights_29 rfl (lv_at hl 3 rfl) ?_
      refine r_getI C hm flX0_60 dX0_sumWeights_30 hh (fun x24 _ hh => ?_)
      refine lv_icmp_ge (tgt := 165) C.1 C.2.1 dX0_sumWeights_33 (by decide) (fun c35 => ?_) (fun c35 => ?_)
      · rw [if_pos c35] at hh
        exact r_vretW hQ C hr hm hs hh dX0_sumWeights_165
      · rw [if_neg c35] at hh
        refine lv_iload C.1 C.2.1 dX0_sumWeights_36 (lv_at hl 4 rfl) ?_
        refine lv_bipush (v := 60) C.1 C.2.1 dX0_sumWeights_38 (by decide) ?_
        refine lv_icmp_ge (tgt := 165) C.1 C.2.1 dX0_sumWeights_40 (by decide) (fun c34 => ?_) (fun c34 => ?_)
        · rw [if_pos c34] at hh
          exact r_vretW hQ C hr hm hs hh dX0_sumWeights_165
        · rw [if_neg c34] at hh
          refine r_aload_n C.1 C.2.1 dX0_sumWeights_43 rfl (lv_at hl 0 rfl) ?_
          refine r_getR C hm flX0_26 dX0_sumWeights_44 hh (fun x25 _ hh => ?_)
          refine lv_iload C.1 C.2.1 dX0_sumWeights_47 (lv_at hl 4 rfl) ?_
          refine r_aload_n C.1 C.2.1 dX0_sumWeights_49 rfl (lv_at hl 3 rfl) ?_
          refine r_getI C hm flX0_65 dX0_sumWeights_50 hh (fun x26 _ hh => ?_)
          refine lv_iconst (v := 0) C.1 C.2.1 dX0_sumWeights_53 (by decide) ?_
          refine r_cV C X hm hs mlX0_68 mvX0_68 hh (vv := fun r => some (.int r.1)) (hp := fun r => r.2) (fun b r hg => c_X2_looksAt l G h b _ _ _ r hg) rfl rfl (Nat.le_of_ble_eq_true rfl) (Nat.le_of_ble_eq_true rfl) (Nat.le_of_ble_eq_true rfl) hl.1 dX0_sumWeights_54 (fun b28 r27 H locs hgr27 hh hm hs => ?_)
          refine W.eq (g2 := F0 m 57 ls [.int r27.1]) rfl ?_
          refine lv_if_eq (tgt := 77) C.1 C.2.1 dX0_sumWeights_57 (by decide) (fun c33 => ?_) (fun c33 => ?_)
          · rw [if_pos c33] at hh
            refine lv_iconst (v := (-1)) C.1 C.2.1 dX0_sumWeights_77 (by decide) ?_
            exact B78 _ ih _ _ _ _ _ _ _ _ _ _  hm hs (lv_sub hl [0, 1, 2, 3, 4] rfl) hh
          · rw [if_neg c33] at hh
            refine r_aload_n C.1 C.2.1 dX0_sumWeights_60 rfl (lv_at hl 0 rfl) ?_
            refine r_getR C hm flX0_26 dX0_sumWeights_61 hh (fun x29 _ hh => ?_)
            refine r_getR C hm flX0_72 dX0_sumWeights_64 hh (fun x30 _ hh => ?_)
            refine r_aload_n C.1 C.2.1 dX0_sumWeights_67 rfl (lv_at hl 0 rfl) ?_
            refine r_getI C hm flX0_9 dX0_sumWeights_68 hh (fun x31 _ hh => ?_)
            refine r_cS C X hm hs mlX0_75 msX0_75 hh (vv := fun r => some (.int r)) (hp := fun r => r27.2) (fun r hg => c_X11_valueIn l G r27.2 _ _ r hg) rfl rfl (Nat.le_of_ble_eq_true rfl) (Nat.le_of_ble_eq_true rfl) (Nat.le_of_ble_eq_true rfl) hl.1 dX0_sumWeights_71 (fun r32 H locs hgr32 hh hm hs => ?_)
            refine W.eq (g2 := F0 m 74 ls [.int r32]) rfl ?_
            refine lv_goto (tgt := 78) C.1 C.2.1 dX0_sumWeights_74 (by decide) ?_
            exact B78 _ ih _ _ _ _ _ _ _ _ _ _  hm hs (lv_sub hl [0, 1, 2, 3, 4] rfl) hh
  unfold mX0_sumWeights at hh
  refine r_aload_n C.1 C.2.1 dX0_sumWeights_0 rfl (lv_at hl 0 rfl) ?_
  refine r_getR C hm flX0_19 dX0_sumWeights_1 hh (fun x36 _ hh => ?_)
  refine lv_lconst (v := 0) C.1 C.2.1 dX0_sumWeights_4 (by decide) ?_
  refine r_cS C X hm hs mlX0_51 msX0_51 hh (vv := fun r => none) (hp := fun r => r) (fun r hg => c_J7_fill_d0a16 l G h _ _ r hg) rfl rfl (Nat.le_of_ble_eq_true rfl) (Nat.le_of_ble_eq_true rfl) (Nat.le_of_ble_eq_true rfl) hl.1 dX0_sumWeights_5 (fun r37 H locs hgr37 hh hm hs => ?_)
  refine W.eq (g2 := F0 m 8 ls []) rfl ?_
  refine r_aload_n C.1 C.2.1 dX0_sumWeights_8 rfl (lv_at hl 0 rfl) ?_
  refine r_getR C hm flX0_23 dX0_sumWeights_9 hh (fun x38 _ hh => ?_)
  refine lv_lconst (v := 0) C.1 C.2.1 dX0_sumWeights_12 (by decide) ?_
  refine r_cS C X hm hs mlX0_51 msX0_51 hh (vv := fun r => none) (hp := fun r => r) (fun r hg => c_J7_fill_d0a16 l G r37 _ _ r hg) rfl rfl (Nat.le_of_ble_eq_true rfl) (Nat.le_of_ble_eq_true rfl) (Nat.le_of_ble_eq_true rfl) hl.1 dX0_sumWeights_13 (fun r39 H locs hgr39 hh hm hs => ?_)
  refine W.eq (g2 := F0 m 16 ls []) rfl ?_
  refine r_aload_n C.1 C.2.1 dX0_sumWeights_16 rfl (lv_at hl 0 rfl) ?_
  refine r_getR C hm flX0_26 dX0_sumWeights_17 hh (fun x40 _ hh => ?_)
  refine r_getR C hm flX0_54 dX0_sumWeights_20 hh (fun x41 _ hh => ?_)
  refine r_astore_n (i := 3) (lv' := [(3, va_rf x41), (0, va_rf (some a0)), (1, va_rf a1), (2, .int a2)]) C.1 C.2.1 dX0_sumWeights_23 rfl hl (by decide) rfl (fun ls hl => ?_)
  refine lv_iconst (v := 0) C.1 C.2.1 dX0_sumWeights_24 (by decide) ?_
  refine lv_istore (i := 4) (lv' := [(4, .int 0), (3, va_rf x41), (0, va_rf (some a0)), (1, va_rf a1), (2, .int a2)]) C.1 C.2.1 dX0_sumWeights_25 hl (by decide) (by simp [va_cat, vc_i, vc_l, vc_r]) (fun ls hl => ?_)
  exact B27 FUEL _ _ _ _ _ _ _ _ _  hm hs (lv_sub hl [2, 3, 4, 1, 0] rfl) hh
def mX0_reckon_b62 (k18 : MHp → Nat → Int32 → Option (MHp)) (h : MHp) (a0 : Nat) (v3 : Int32) : Option (MHp) := k18 h a0 (v3 + 1)
def mX0_reckon_l18 : Nat → MHp → Nat → Int32 → Option (MHp)
  | 0, _, _, _ => none
  | n + 1, h, a0, v3 => (gR 1 4 h (some a0)).bind fun x1 => (gN 20 h x1).bind fun x2 => (if x2 ≤ v3 then some h else (gR 1 5 h (some a0)).bind fun x3 => (gAL 21 h x3 v3).bind fun x4 => (if (lg_cmp x4 0) ≤ 0 then mX0_reckon_b62 (mX0_reckon_l18 n) h a0 v3 else (gR 1 6 h (some a0)).bind fun x5 => (gAL 21 h x5 v3).bind fun x6 => (gR 1 4 h (some a0)).bind fun x7 => (gAI 20 h x7 v3).bind fun x8 => (gR 1 5 h (some a0)).bind fun x9 => (gAL 21 h x9 v3).bind fun x10 => (rcv 1 h (some a0)).bind fun b12 => (mX0_add h b12 (x6 * x8.toInt64) x10).bind fun r11 => mX0_reckon_b62 (mX0_reckon_l18 n) r11 a0 v3))
def mX0_reckon (h : MHp) (a0 : Nat) (a1 : Option Nat) (a2 : Int32) : Option (MHp) := (rcv 1 h (some a0)).bind fun b16 => (mX0_sumWeights h b16 a1 a2).bind fun r15 => (pL 1 2 r15 (some a0) 0).bind fun h17 => (pL 1 3 h17 (some a0) 1).bind fun h18 => mX0_reckon_l18 FUEL h18 a0 0
set_option maxRecDepth 100000 in
set_option maxHeartbeats 4000000 in
theorem c_X0_reckon (l : Launch) (G : Env0) (h : MHp) (a0 : Nat) (a1 : Option Nat) (a2 : Int32) (res : MHp) (hh : mX0_reckon h a0 a1 a2 = some res) : MG l yX0_reckon cX0_reckon 4 none 5 121 0 0 G h [.ref a0, va_rf a1, .int a2] (none) (res) := by
  refine MG_of (own := RX0) (plainFor_of_name (by decide)) rfl (by simp [lg_sl, va_cat, vc_i, vc_l, vc_r]) ?_
  intro p e s m args below meth c Q ls hQ C X hin hm hs hl hr
  have hl : lv_has ls 4 [(0, .ref a0), (1, va_rf a1), (2, .int a2)] := by simpa [lv_args, va_cat, vc_i, vc_l, vc_r] using hl
  have hl : lv_has ls 4 [(0, va_rf (some a0)), (1, va_rf a1), (2, .int a2)] := hl
  have B62 : ∀ (k18 : MHp → Nat → Int32 → Option (MHp)), (∀ (h : MHp) (H : Heap) (locs : List Loc) (ls : Array Slot) (a0 : Nat) (v3 : Int32) , mHp (gD G) (gC G) (gB G) h H → va_S (fun q => gB G ≤ q) s.heap H locs → lv_has ls 4 [(0, va_rf (some a0)), (3, .int v3)] → k18 h a0 v3 = some res → W p l e ({ frames := 5, cells := 0, slots := 0, locals := 121 }) s m args below meth c H locs 0 0 Q (F0 m 18 ls [])) → ∀ (h : MHp) (H : Heap) (locs : List Loc) (ls : Array Slot) (a0 : Nat) (v3 : Int32) , mHp (gD G) (gC G) (gB G) h H → va_S (fun q => gB G ≤ q) s.heap H locs → lv_has ls 4 [(0, va_rf (some a0)), (3, .int v3)] → mX0_reckon_b62 k18 h a0 v3 = some res → W p l e ({ frames := 5, cells := 0, slots := 0, locals := 121 }) s m args below meth c H locs 0 0 Q (F0 m 62 ls []) := by
    intro k18 hk18 h H locs ls a0 v3 hm hs hl hh
    unfold mX0_reckon_b62 at hh
    refine lv_iinc (v := (v3 + 1)) (lv' := [(3, .int (v3 + 1)), (0, va_rf (some a0))]) C.1 C.2.1 dX0_reckon_62 hl (k := 1) rfl rfl (by decide) rfl (fun ls hl => ?_)
    refine lv_goto (tgt := 18) C.1 C.2.1 dX0_reckon_65 (by decide) ?_
    exact hk18 _ _ _ _ _ _  hm hs (lv_sub hl [1, 0] rfl) hh
  have B18 : ∀ n : Nat, ∀ (h : MHp) (H : Heap) (locs : List Loc) (ls : Array Slot) (a0 : Nat) (v3 : Int32) , mHp (gD G) (gC G) (gB G) h H → va_S (fun q => gB G ≤ q) s.heap H locs → lv_has ls 4 [(0, va_rf (some a0)), (3, .int v3)] → mX0_reckon_l18 n h a0 v3 = some res → W p l e ({ frames := 5, cells := 0, slots := 0, locals := 121 }) s m args below meth c H locs 0 0 Q (F0 m 18 ls []) := by
    intro n
    induction n with
    | zero => intro h H locs ls a0 v3 hm hs hl hh; cases hh
    | succ n ih =>
      intro h H locs ls a0 v3 hm hs hl hh
      unfold mX0_reckon_l18 at hh
      refine lv_iload_n C.1 C.2.1 dX0_reckon_18 rfl (lv_at hl 1 rfl) ?_
      refine r_aload_n C.1 C.2.1 dX0_reckon_19 rfl (lv_at hl 0 rfl) ?_
      refine r_getR C hm flX0_15 dX0_reckon_20 hh (fun x1 _ hh => ?_)
      refine r_len C hm dX0_reckon_23 (kd := 20) (by decide) hh (fun x2 _ hh => ?_)
      refine lv_icmp_ge (tgt := 68) C.1 C.2.1 dX0_reckon_24 (by decide) (fun c14 => ?_) (fun c14 => ?_)
      · rw [if_pos c14] at hh
        exact r_vretW hQ C hr hm hs hh dX0_reckon_68
      · rw [if_neg c14] at hh
        refine r_aload_n C.1 C.2.1 dX0_reckon_27 rfl (lv_at hl 0 rfl) ?_
        refine r_getR C hm flX0_19 dX0_reckon_28 hh (fun x3 _ hh => ?_)
        refine lv_iload_n C.1 C.2.1 dX0_reckon_31 rfl (lv_at hl 1 rfl) ?_
        refine r_lald C hm dX0_reckon_32 hh (fun x4 _ hh => ?_)
        refine lv_lconst (v := 0) C.1 C.2.1 dX0_reckon_33 (by decide) ?_
        refine W.lcmp C.1 C.2.1 dX0_reckon_34 ?_
        refine lv_if_le (tgt := 62) C.1 C.2.1 dX0_reckon_35 (by decide) (fun c13 => ?_) (fun c13 => ?_)
        · rw [if_pos c13] at hh
          exact B62 _ ih _ _ _ _ _ _  hm hs (lv_sub hl [0, 1] rfl) hh
        · rw [if_neg c13] at hh
          refine r_aload_n C.1 C.2.1 dX0_reckon_38 rfl (lv_at hl 0 rfl) ?_
          refine r_aload_n C.1 C.2.1 dX0_reckon_39 rfl (lv_at hl 0 rfl) ?_
          refine r_getR C hm flX0_23 dX0_reckon_40 hh (fun x5 _ hh => ?_)
          refine lv_iload_n C.1 C.2.1 dX0_reckon_43 rfl (lv_at hl 1 rfl) ?_
          refine r_lald C hm dX0_reckon_44 hh (fun x6 _ hh => ?_)
          refine r_aload_n C.1 C.2.1 dX0_reckon_45 rfl (lv_at hl 0 rfl) ?_
          refine r_getR C hm flX0_15 dX0_reckon_46 hh (fun x7 _ hh => ?_)
          refine lv_iload_n C.1 C.2.1 dX0_reckon_49 rfl (lv_at hl 1 rfl) ?_
          refine r_ald C hm dX0_reckon_50 hh (fun x8 _ hh => ?_)
          refine lv_i2l (v := x8.toInt64) C.1 C.2.1 dX0_reckon_51 rfl ?_
          refine lv_lmul C.1 C.2.1 dX0_reckon_52 ?_
          refine r_aload_n C.1 C.2.1 dX0_reckon_53 rfl (lv_at hl 0 rfl) ?_
          refine r_getR C hm flX0_19 dX0_reckon_54 hh (fun x9 _ hh => ?_)
          refine lv_iload_n C.1 C.2.1 dX0_reckon_57 rfl (lv_at hl 1 rfl) ?_
          refine r_lald C hm dX0_reckon_58 hh (fun x10 _ hh => ?_)
          refine r_cV C X hm hs mlX0_47 mvX0_47 hh (vv := fun r => none) (hp := fun r => r) (fun b r hg => c_X0_add l G h b _ _ r hg) rfl rfl (Nat.le_of_ble_eq_true rfl) (Nat.le_of_ble_eq_true rfl) (Nat.le_of_ble_eq_true rfl) hl.1 dX0_reckon_59 (fun b12 r11 H locs hgr11 hh hm hs => ?_)
          refine W.eq (g2 := F0 m 62 ls []) rfl ?_
          exact B62 _ ih _ _ _ _ _ _  hm hs (lv_sub hl [0, 1] rfl) hh
  unfold mX0_reckon at hh
  refine r_aload_n C.1 C.2.1 dX0_reckon_0 rfl (lv_at hl 0 rfl) ?_
  refine r_aload_n C.1 C.2.1 dX0_reckon_1 rfl (lv_at hl 1 rfl) ?_
  refine lv_iload_n C.1 C.2.1 dX0_reckon_2 rfl (lv_at hl 2 rfl) ?_
  refine r_cV C X hm hs mlX0_36 mvX0_36 hh (vv := fun r => none) (hp := fun r => r) (fun b r hg => c_X0_sumWeights l G h b _ _ r hg) rfl rfl (Nat.le_of_ble_eq_true rfl) (Nat.le_of_ble_eq_true rfl) (Nat.le_of_ble_eq_true rfl) hl.1 dX0_reckon_3 (fun b16 r15 H locs hgr15 hh hm hs => ?_)
  refine W.eq (g2 := F0 m 6 ls []) rfl ?_
  refine r_aload_n C.1 C.2.1 dX0_reckon_6 rfl (lv_at hl 0 rfl) ?_
  refine lv_lconst (v := 0) C.1 C.2.1 dX0_reckon_7 (by decide) ?_
  refine r_putL C hm hs flX0_40 (Or.inl fm_1_2) dX0_reckon_8 hh (fun h17 H locs _ hh hm hs => ?_)
  refine r_aload_n C.1 C.2.1 dX0_reckon_11 rfl (lv_at hl 0 rfl) ?_
  refine lv_lconst (v := 1) C.1 C.2.1 dX0_reckon_12 (by decide) ?_
  refine r_putL C hm hs flX0_44 (Or.inl fm_1_3) dX0_reckon_13 hh (fun h18 H locs _ hh hm hs => ?_)
  refine lv_iconst (v := 0) C.1 C.2.1 dX0_reckon_16 (by decide) ?_
  refine lv_istore_n (i := 3) (lv' := [(3, .int 0), (0, va_rf (some a0)), (1, va_rf a1), (2, .int a2)]) C.1 C.2.1 dX0_reckon_17 rfl hl (by decide) rfl (fun ls hl => ?_)
  exact B18 FUEL _ _ _ _ _ _  hm hs (lv_sub hl [1, 0] rfl) hh

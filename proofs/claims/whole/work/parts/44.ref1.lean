def mX12_init (h : MHp) (a0 : Nat) : Option (MHp) := (some (nA h 21 6)).bind fun h1 => (pR 13 2 h1 (some a0) (some (hS h))).bind fun h2 => (some (nA h2 20 6)).bind fun h3 => (pR 13 3 h3 (some a0) (some (hS h2))).bind fun h4 => (some (nA h4 20 6)).bind fun h5 => (pR 13 4 h5 (some a0) (some (hS h4))).bind fun h6 => (some (nA h6 27 12)).bind fun h7 => (pR 13 5 h7 (some a0) (some (hS h6))).bind fun h8 => some h8
set_option maxRecDepth 100000 in
set_option maxHeartbeats 4000000 in
theorem c_X12_init (l : Launch) (G : Env0) (h : MHp) (a0 : Nat) (res : MHp) (hh : mX12_init h a0 = some res) : MG l yX12_init cX12_init 1 none 1 12 4 30 G h [.ref a0] (none) (res) := by
  refine MG_of (own := RX12) (plainFor_of_name (by decide)) rfl (Nat.le_of_ble_eq_true rfl) ?_
  intro p e s m args below meth c Q ls hQ C X hin hm hs hl hr
  have hl : lv_has ls 1 [(0, va_rf (some a0))] := hl
  unfold mX12_init at hh
  refine r_aload_n C.1 C.2.1 dX12_init_0 rfl (lv_at hl 0 rfl) ?_
  refine r_objInit C (in_tbl q_1498 rfl) (in_tbl q_37 rfl) (in_tbl q_38 rfl) hl.1 dX12_init_1 (Nat.le_of_ble_eq_true rfl) (Nat.le_of_ble_eq_true rfl) ?_
  refine r_aload_n C.1 C.2.1 dX12_init_4 rfl (lv_at hl 0 rfl) ?_
  refine lv_bipush (v := 6) C.1 C.2.1 dX12_init_5 (by decide) ?_
  refine r_newaG C hm hs (kd := 21) (w := 8) (by decide) aw21 dX12_init_7 (N := 6) (by decide) (by decide) (by decide) hh (Nat.le_of_ble_eq_true rfl) (Nat.le_of_ble_eq_true rfl) (fun h1 H hh hm hs => ?_)
  refine r_putR C hm hs flX12_9 (Or.inr ⟨ffX12_9, hin rfl⟩) dX12_init_9 hh (fun h2 H locs _ hh hm hs => ?_)
  refine r_aload_n C.1 C.2.1 dX12_init_12 rfl (lv_at hl 0 rfl) ?_
  refine lv_bipush (v := 6) C.1 C.2.1 dX12_init_13 (by decide) ?_
  refine r_newaG C hm hs (kd := 20) (w := 4) (by decide) aw20 dX12_init_15 (N := 6) (by decide) (by decide) (by decide) hh (Nat.le_of_ble_eq_true rfl) (Nat.le_of_ble_eq_true rfl) (fun h3 H hh hm hs => ?_)
  refine r_putR C hm hs flX12_15 (Or.inr ⟨ffX12_15, hin rfl⟩) dX12_init_17 hh (fun h4 H locs _ hh hm hs => ?_)
  refine r_aload_n C.1 C.2.1 dX12_init_20 rfl (lv_at hl 0 rfl) ?_
  refine lv_bipush (v := 6) C.1 C.2.1 dX12_init_21 (by decide) ?_
  refine r_newaG C hm hs (kd := 20) (w := 4) (by decide) aw20 dX12_init_23 (N := 6) (by decide) (by decide) (by decide) hh (Nat.le_of_ble_eq_true rfl) (Nat.le_of_ble_eq_true rfl) (fun h5 H hh hm hs => ?_)
  refine r_putR C hm hs flX12_19 (Or.inr ⟨ffX12_19, hin rfl⟩) dX12_init_25 hh (fun h6 H locs _ hh hm hs => ?_)
  refine r_aload_n C.1 C.2.1 dX12_init_28 rfl (lv_at hl 0 rfl) ?_
  refine lv_bipush (v := 12) C.1 C.2.1 dX12_init_29 (by decide) ?_
  refine r_newqG C hm hs (kd := 27) (t0 := 7) (by decide) rfl X.2.2.1.2.2.2 (in_tbl q_1499 rfl) dX12_init_31 (N := 12) (by decide) (by decide) (by decide) hh (Nat.le_of_ble_eq_true rfl) (Nat.le_of_ble_eq_true rfl) (fun h7 H hh hm hs => ?_)
  refine r_putR C hm hs flX12_24 (Or.inr ⟨ffX12_24, hin rfl⟩) dX12_init_34 hh (fun h8 H locs _ hh hm hs => ?_)
  refine W.widen (k := 4) (n := 30) (by omega) (by omega) ?_
  exact r_vretW hQ C hr hm hs hh dX12_init_37
def mX12_fieldOf_l2 (h : MHp) : Nat → Nat → Int64 → Int32 → Option (Int32)
  | 0, _, _, _ => none
  | n + 1, a0, v1, v3 => (gI 13 0 h (some a0)).bind fun x1 => (if x1 ≤ v3 then some (-1) else (gR 13 2 h (some a0)).bind fun x2 => (gAL 21 h x2 v3).bind fun x3 => (if (lg_cmp x3 v1) = 0 then some v3 else mX12_fieldOf_l2 h n a0 v1 (v3 + 1)))
def mX12_fieldOf (h : MHp) (a0 : Nat) (a1 : Int64) : Option (Int32) := mX12_fieldOf_l2 h FUEL a0 a1 0
set_option maxRecDepth 100000 in
set_option maxHeartbeats 4000000 in
theorem c_X12_fieldOf (l : Launch) (G : Env0) (h : MHp) (a0 : Nat) (a1 : Int64) (res : Int32) (hh : mX12_fieldOf h a0 a1 = some res) : MG l yX12_fieldOf cX12_fieldOf 4 (some .int) 0 0 0 0 G h [.ref a0, .long a1] (some (.int res)) (h) := by
  refine MG_of (own := RX12) (plainFor_of_name (by decide)) rfl (Nat.le_of_ble_eq_true rfl) ?_
  intro p e s m args below meth c Q ls hQ C X hin hm hs hl hr
  have hl : lv_has ls 4 [(0, va_rf (some a0)), (1, .long a1)] := hl
  have B2 : ∀ n : Nat, ∀ (H : Heap) (locs : List Loc) (ls : Array Slot) (a0 : Nat) (v1 : Int64) (v3 : Int32) , mHp (gD G) (gC G) (gB G) h H → va_S (fun q => gB G ≤ q) s.heap H locs → lv_has ls 4 [(0, va_rf (some a0)), (1, .long v1), (3, .int v3)] → mX12_fieldOf_l2 h n a0 v1 v3 = some res → W p l e ({ frames := 0, cells := 0, slots := 0, locals := 0 }) s m args below meth c H locs 0 0 Q (F0 m 2 ls []) := by
    intro n
    induction n with
    | zero => intro H locs ls a0 v1 v3 hm hs hl hh; cases hh
    | succ n ih =>
      intro H locs ls a0 v1 v3 hm hs hl hh
      unfold mX12_fieldOf_l2 at hh
      refine lv_iload_n C.1 C.2.1 dX12_fieldOf_2 rfl (lv_at hl 2 rfl) ?_
      refine r_aload_n C.1 C.2.1 dX12_fieldOf_3 rfl (lv_at hl 0 rfl) ?_
      refine r_getI C hm flX12_28 dX12_fieldOf_4 hh (fun x1 _ hh => ?_)
      refine lv_icmp_ge (tgt := 29) C.1 C.2.1 dX12_fieldOf_7 (by decide) (fun c5 => ?_) (fun c5 => ?_)
      · rw [if_pos c5] at hh
        refine lv_iconst (v := (-1)) C.1 C.2.1 dX12_fieldOf_29 (by decide) ?_
        exact r_iretP hQ C hr hm hs hh dX12_fieldOf_30
      · rw [if_neg c5] at hh
        refine r_aload_n C.1 C.2.1 dX12_fieldOf_10 rfl (lv_at hl 0 rfl) ?_
        refine r_getR C hm flX12_9 dX12_fieldOf_11 hh (fun x2 _ hh => ?_)
        refine lv_iload_n C.1 C.2.1 dX12_fieldOf_14 rfl (lv_at hl 2 rfl) ?_
        refine r_lald C hm dX12_fieldOf_15 hh (fun x3 _ hh => ?_)
        refine lv_lload_n C.1 C.2.1 dX12_fieldOf_16 rfl (lv_at hl 1 rfl) ?_
        refine W.lcmp C.1 C.2.1 dX12_fieldOf_17 ?_
        refine lv_if_ne (tgt := 23) C.1 C.2.1 dX12_fieldOf_18 (by decide) (fun c4 => ?_) (fun c4 => ?_)
        · rw [if_neg c4] at hh
          refine lv_iinc (v := (v3 + 1)) (lv' := [(3, .int (v3 + 1)), (0, va_rf (some a0)), (1, .long v1)]) C.1 C.2.1 dX12_fieldOf_23 hl (k := 2) rfl rfl (by decide) rfl (fun ls hl => ?_)
          refine lv_goto (tgt := 2) C.1 C.2.1 dX12_fieldOf_26 (by decide) ?_
          exact ih _ _ _ _ _ _  hm hs (lv_sub hl [1, 2, 0] rfl) hh
        · rw [if_pos c4] at hh
          refine lv_iload_n C.1 C.2.1 dX12_fieldOf_21 rfl (lv_at hl 2 rfl) ?_
          exact r_iretP hQ C hr hm hs hh dX12_fieldOf_22
  unfold mX12_fieldOf at hh
  refine lv_iconst (v := 0) C.1 C.2.1 dX12_fieldOf_0 (by decide) ?_
  refine lv_istore_n (i := 3) (lv' := [(3, .int 0), (0, va_rf (some a0)), (1, .long a1)]) C.1 C.2.1 dX12_fieldOf_1 rfl hl (by decide) rfl (fun ls hl => ?_)
  exact B2 FUEL _ _ _ _ _ _  hm hs (lv_sub hl [1, 2, 0] rfl) hh
def mX15_holds_b142 (k4 : Nat → Option Nat → Int32 → Int32 → Option (Int32)) (h : MHp) (a0 : Nat) (v1 : Option Nat) (v3 : Int32) (t0 : Int32) : Option (Int32) := k4 a0 v1 t0 (v3 + 1)
def mX15_holds_b141 (k4 : Nat → Option Nat → Int32 → Int32 → Option (Int32)) (h : MHp) (a0 : Nat) (v1 : Option Nat) (v3 : Int32) : Option (Int32) := mX15_holds_b142 k4 h a0 v1 v3 0
def mX15_holds_b118 (k4 : Nat → Option Nat → Int32 → Int32 → Option (Int32)) (h : MHp) (a0 : Nat) (v1 : Option Nat) (v3 : Int32) (v4 : Int32) (v5 : Int32) (t0 : Int32) : Option (Int32) := (if v4 = (-1) then mX15_holds_b141 k4 h a0 v1 v3 else (if v5 = (-1) then mX15_holds_b141 k4 h a0 v1 v3 else (if t0 = 0 then mX15_holds_b141 k4 h a0 v1 v3 else mX15_holds_b142 k4 h a0 v1 v3 1)))
def mX15_holds_b52 (k4 : Nat → Option Nat → Int32 → Int32 → Option (Int32)) (h : MHp) (a0 : Nat) (v1 : Option Nat) (v3 : Int32) (v4 : Int32) (t0 : Int32) : Option (Int32) := (gR 16 2 h (some a0)).bind fun x4 => (gAI 20 h x4 v3).bind fun x5 => (if x5 = 61 then (if v4 = t0 then mX15_holds_b118 k4 h a0 v1 v3 v4 t0 1 else mX15_holds_b118 k4 h a0 v1 v3 v4 t0 0) else (gR 16 2 h (some a0)).bind fun x6 => (gAI 20 h x6 v3).bind fun x7 => (if x7 = 60 then (if t0 ≤ v4 then mX15_holds_b118 k4 h a0 v1 v3 v4 t0 0 else mX15_holds_b118 k4 h a0 v1 v3 v4 t0 1) else (if v4 ≤ t0 then mX15_holds_b118 k4 h a0 v1 v3 v4 t0 0 else mX15_holds_b118 k4 h a0 v1 v3 v4 t0 1)))
def mX15_holds_l4 (h : MHp) : Nat → Nat → Option Nat → Int32 → Int32 → Option (Int32)
  | 0, _, _, _, _ => none
  | n + 1, a0, v1, v2, v3 => (gI 16 0 h (some a0)).bind fun x13 => (if x13 ≤ v3 then (rB v2).bind fun _ => some v2 else (if v2 = 0 then (rB v2).bind fun _ => some v2 else (gR 16 1 h (some a0)).bind fun x14 => (gAI 20 h x14 v3).bind fun x15 => (gAI 20 h v1 x15).bind fun x16 => (gR 16 4 h (some a0)).bind fun x17 => (gAI 23 h x17 v3).bind fun x18 => (if x18 = 0 then (gR 16 3 h (some a0)).bind fun x19 => (gAI 20 h x19 v3).bind fun x20 => mX15_holds_b52 (mX15_holds_l4 h n) h a0 v1 v3 x16 x20 else (gR 16 3 h (some a0)).bind fun x21 => (gAI 20 h x21 v3).bind fun x22 => (gAI 20 h v1 x22).bind fun x23 => mX15_holds_b52 (mX15_holds_l4 h n) h a0 v1 v3 x16 x23)))
def mX15_holds (h : MHp) (a0 : Nat) (a1 : Option Nat) : Option (Int32) := mX15_holds_l4 h FUEL a0 a1 1 0
set_option maxRecDepth 100000 in
set_option maxHeartbeats 4000000 in
theorem c_X15_holds (l : Launch) (G : Env0) (h : MHp) (a0 : Nat) (a1 : Option Nat) (res : Int32) (hh : mX15_holds h a0 a1 = some res) : MG l yX15_holds cX15_holds 7 (some .boolean) 0 0 0 0 G h [.ref a0, va_rf a1] (some (.int res)) (h) := by
  refine MG_of (own := RX15) (plainFor_of_name (by decide)) rfl (by simp [lg_sl, va_cat, vc_i, vc_l, vc_r]) ?_
  intro p e s m args below meth c Q ls hQ C X hin hm hs hl hr
  have hl : lv_has ls 7 [(0, .ref a0), (1, va_rf a1)] := by simpa [lv_args, va_cat, vc_i, vc_l, vc_r] using hl
  have hl : lv_has ls 7 [(0, va_rf (some a0)), (1, va_rf a1)] := hl
  have B142 : ∀ (k4 : Nat → Option Nat → Int32 → Int32 → Option (Int32)), (∀ (H : Heap) (locs : List Loc) (ls : Array Slot) (a0 : Nat) (v1 : Option Nat) (v2 : Int32) (v3 : Int32) , mHp (gD G) (gC G) (gB G) h H → va_S (fun q => gB G ≤ q) s.heap H locs → lv_has ls 7 [(0, va_rf (some a0)), (1, va_rf v1), (2, .int v2), (3, .int v3)] → k4 a0 v1 v2 v3 = some res → W p l e ({ frames := 0, cells := 0, slots := 0, locals := 0 }) s m args below meth c H locs 0 0 Q (F0 m 4 ls [])) → ∀ (H : Heap) (locs : List Loc) (ls : Array Slot) (a0 : Nat) (v1 : Option Nat) (v3 : Int32) (t0 : Int32) , mHp (gD G) (gC G) (gB G) h H → va_S (fun q => gB G ≤ q) s.heap H locs → lv_has ls 7 [(0, va_rf (some a0)), (1, va_rf v1), (3, .int v3)] → mX15_holds_b142 k4 h a0 v1 v3 t0 = some res → W p l e ({ frames := 0, cells := 0, slots := 0, locals := 0 }) s m args below meth c H locs 0 0 Q (F0 m 142 ls [.int t0]) := by
    intro k4 hk4 H locs ls a0 v1 v3 t0 hm hs hl hh
    unfold mX15_holds_b142 at hh
    refine lv_istore_n (i := 2) (lv' := [(2, .int t0), (0, va_rf (some a0)), (1, va_rf v1), (3, .int v3)]) C.1 C.2.1 dX15_holds_142 rfl hl (by decide) (by simp [va_cat, vc_i, vc_l, vc_r]) (fun ls hl => ?_)
    refine lv_iinc (v := (v3 + 1)) (lv' := [(3, .int (v3 + 1)), (2, .int t0), (0, va_rf (some a0)), (1, va_rf v1)]) C.1 C.2.1 dX15_holds_143 hl (k := 3) rfl rfl (by decide) rfl (fun ls hl => ?_)
    refine lv_goto (tgt := 4) C.1 C.2.1 dX15_holds_146 (by decide) ?_
    exact hk4 _ _ _ _ _ _ _  hm hs (lv_sub hl [2, 3, 1, 0] rfl) hh
  have B141 : ∀ (k4 : Nat → Option Nat → Int32 → Int32 → Option (Int32)), (∀ (H : Heap) (locs : List Loc) (ls : Array Slot) (a0 : Nat) (v1 : Option Nat) (v2 : Int32) (v3 : Int32) , mHp (gD G) (gC G) (gB G) h H → va_S (fun q => gB G ≤ q) s.heap H locs → lv_has ls 7 [(0, va_rf (some a0)), (1, va_rf v1), (2, .int v2), (3, .int v3)] → k4 a0 v1 v2 v3 = some res → W p l e ({ frames := 0, cells := 0, slots := 0, locals := 0 }) s m args below meth c H locs 0 0 Q (F0 m 4 ls [])) → ∀ (H : Heap) (locs : List Loc) (ls : Array Slot) (a0 : Nat) (v1 : Option Nat) (v3 : Int32) , mHp (gD G) (gC G) (gB G) h H → va_S (fun q => gB G ≤ q) s.heap H locs → lv_has ls 7 [(0, va_rf (some a0)), (1, va_rf v1), (3, .int v3)] → mX15_holds_b141 k4 h a0 v1 v3 = some res → W p l e ({ frames := 0, cells := 0, slots := 0, locals := 0 }) s m args below meth c H locs 0 0 Q (F0 m 141 ls []) := by
    intro k4 hk4 H locs ls a0 v1 v3 hm hs hl hh
    unfold mX15_holds_b141 at hh
    refine lv_iconst (v := 0) C.1 C.2.1 dX15_holds_141 (by decide) ?_
    exact B142 _ hk4 _ _ _ _ _ _ _  hm hs (lv_sub hl [0, 1, 2] rfl) hh
  have B118 : ∀ (k4 : Nat → Option Nat → Int32 → Int32 → Option (Int32)), (∀ (H : Heap) (locs : List Loc) (ls : Array Slot) (a0 : Nat) (v1 : Option Nat) (v2 : Int32) (v3 : Int32) , mHp (gD G) (gC G) (gB G) h H → va_S (fun q => gB G ≤ q) s.heap H locs → lv_has ls 7 [(0, va_rf (some a0)), (1, va_rf v1), (2, .int v2), (3, .int v3)] → k4 a0 v1 v2 v3 = some res → W p l e ({ frames := 0, cells := 0, slots := 0, locals := 0 }) s m args below meth c H locs 0 0 Q (F0 m 4 ls [])) → ∀ (H : Heap) (locs : List Loc) (ls : Array Slot) (a0 : Nat) (v1 : Option Nat) (v3 : Int32) (v4 : Int32) (v5 : Int32) (t0 : Int32) , mHp (gD G) (gC G) (gB G) h H → va_S (fun q => gB G ≤ q) s.heap H locs → lv_has ls 7 [(0, va_rf (some a0)), (1, va_rf v1), (3, .int v3), (4, .int v4), (5, .int v5)] → mX15_holds_b118 k4 h a0 v1 v3 v4 v5 t0 = some res → W p l e ({ frames := 0, cells := 0, slots := 0, locals := 0 }) s m args below meth c H locs 0 0 Q (F0 m 118 ls [.int t0]) := by
    intro k4 hk4 H locs ls a0 v1 v3 v4 v5 t0 hm hs hl hh
    unfold mX15_holds_b118 at hh
    refine lv_istore (i := 6) (lv' := [(6, .int t0), (0, va_rf (some a0)), (1, va_rf v1), (3, .int v3), (4, .int v4), (5, .int v5)]) C.1 C.2.1 dX15_holds_118 hl (by decide) rfl (fun ls hl => ?_)
    refine lv_iload C.1 C.2.1 dX15_holds_120 (lv_at hl 4 rfl) ?_
    refine lv_iconst (v := (-1)) C.1 C.2.1 dX15_holds_122 (by decide) ?_
    refine lv_icmp_eq (tgt := 141) C.1 C.2.1 dX15_holds_123 (by decide) (fun c3 => ?_) (fun c3 => ?_)
    · rw [if_pos c3] at hh
      exact B141 _ hk4 _ _ _ _ _ _  hm hs (lv_sub hl [1, 2, 3] rfl) hh
    · rw [if_neg c3] at hh
      refine lv_iload C.1 C.2.1 dX15_holds_126 (lv_at hl 5 rfl) ?_
      refine lv_iconst (v := (-1)) C.1 C.2.1 dX15_holds_128 (by decide) ?_
      refine lv_icmp_eq (tgt := 141) C.1 C.2.1 dX15_holds_129 (by decide) (fun c2 => ?_) (fun c2 => ?_)
      · rw [if_pos c2] at hh
        exact B141 _ hk4 _ _ _ _ _ _  hm hs (lv_sub hl [1, 2, 3] rfl) hh
      · rw [if_neg c2] at hh
        refine lv_iload C.1 C.2.1 dX15_holds_132 (lv_at hl 0 rfl) ?_
        refine lv_if_eq (tgt := 141) C.1 C.2.1 dX15_holds_134 (by decide) (fun c1 => ?_) (fun c1 => ?_)
        · rw [if_pos c1] at hh
          exact B141 _ hk4 _ _ _ _ _ _  hm hs (lv_sub hl [1, 2, 3] rfl) hh
        · rw [if_neg c1] at hh
          refine lv_iconst (v := 1) C.1 C.2.1 dX15_holds_137 (by decide) ?_
          refine lv_goto (tgt := 142) C.1 C.2.1 dX15_holds_138 (by decide) ?_
          exact B142 _ hk4 _ _ _ _ _ _ _  hm hs (lv_sub hl [1, 2, 3] rfl) hh
  have B52 : ∀ (k4 : Nat → Option Nat → Int32 → Int32 → Option (Int32)), (∀ (H : Heap) (locs : List Loc) (ls : Array Slot) (a0 : Nat) (v1 : Option Nat) (v2 : Int32) (v3 : Int32) , mHp (gD G) (gC G) (gB G) h H → va_S (fun q => gB G ≤ q) s.heap H locs → lv_has ls 7 [(0, va_rf (some a0)), (1, va_rf v1), (2, .int v2), (3, .int v3)] → k4 a0 v1 v2 v3 = some res → W p l e ({ frames := 0, cells := 0, slots := 0, locals := 0 }) s m args below meth c H locs 0 0 Q (F0 m 4 ls [])) → ∀ (H : Heap) (locs : List Loc) (ls : Array Slot) (a0 : Nat) (v1 : Option Nat) (v3 : Int32) (v4 : Int32) (t0 : Int32) , mHp (gD G) (gC G) (gB G) h H → va_S (fun q => gB G ≤ q) s.heap H locs → lv_has ls 7 [(0, va_rf (some a0)), (1, va_rf v1), (3, .int v3), (4, .int v4)] → mX15_holds_b52 k4 h a0 v1 v3 v4 t0 = some res → W p l e ({ frames := 0, cells := 0, slots := 0, locals := 0 }) s m args below meth c H locs 0 0 Q (F0 m 52 ls [.int t0]) := by
    intro k4 hk4 H locs ls a0 v1 v3 v4 t0 hm hs hl hh
    unfold mX15_holds_b52 at hh
    refine lv_istore (i := 5) (lv' := [(5, .int t0), (0, va_rf (some a0)), (1, va_rf v1), (3, .int v3), (4, .int v4)]) C.1 C.2.1 dX15_holds_52 hl (by decide) rfl (fun ls hl => ?_)
    refine r_aload_n C.1 C.2.1 dX15_holds_54 rfl (lv_at hl 1 rfl) ?_
    refine r_getR C hm flX15_15 dX15_holds_55 hh (fun x4 _ hh => ?_)
    refine lv_iload_n C.1 C.2.1 dX15_holds_58 rfl (lv_at hl 3 rfl) ?_
    refine r_ald C hm dX15_holds_59 hh (fun x5 _ hh => ?_)
    refine lv_bipush (v := 61) C.1 C.2.1 dX15_holds_60 (by decide) ?_
    refine lv_icmp_ne (tgt := 80) C.1 C.2.1 dX15_holds_62 (by decide) (fun c12 => ?_) (fun c12 => ?_)
    · rw [if_neg c12] at hh
      refine r_aload_n C.1 C.2.1 dX15_holds_80 rfl (lv_at hl 1 rfl) ?_
      refine r_getR C hm flX15_15 dX15_holds_81 hh (fun x6 _ hh => ?_)
      refine lv_iload_n C.1 C.2.1 dX15_holds_84 rfl (lv_at hl 3 rfl) ?_
      refine r_ald C hm dX15_holds_85 hh (fun x7 _ hh => ?_)
      refine lv_bipush (v := 60) C.1 C.2.1 dX15_holds_86 (by decide) ?_
      refine lv_icmp_ne (tgt := 106) C.1 C.2.1 dX15_holds_88 (by decide) (fun c10 => ?_) (fun c10 => ?_)
      · rw [if_neg c10] at hh
        refine lv_iload C.1 C.2.1 dX15_holds_106 (lv_at hl 4 rfl) ?_
        refine lv_iload C.1 C.2.1 dX15_holds_108 (lv_at hl 0 rfl) ?_
        refine lv_icmp_le (tgt := 117) C.1 C.2.1 dX15_holds_110 (by decide) (fun c8 => ?_) (fun c8 => ?_)
        · rw [if_pos c8] at hh
          refine lv_iconst (v := 0) C.1 C.2.1 dX15_holds_117 (by decide) ?_
          exact B118 _ hk4 _ _ _ _ _ _ _ _ _  hm hs (lv_sub hl [1, 2, 3, 4, 0] rfl) hh
        · rw [if_neg c8] at hh
          refine lv_iconst (v := 1) C.1 C.2.1 dX15_holds_113 (by decide) ?_
          refine lv_goto (tgt := 118) C.1 C.2.1 dX15_holds_114 (by decide) ?_
          exact B118 _ hk4 _ _ _ _ _ _ _ _ _  hm hs (lv_sub hl [1, 2, 3, 4, 0] rfl) hh
      · rw [if_pos c10] at hh
        refine lv_iload C.1 C.2.1 dX15_holds_91 (lv_at hl 4 rfl) ?_
        refine lv_iload C.1 C.2.1 dX15_holds_93 (lv_at hl 0 rfl) ?_
        refine lv_icmp_ge (tgt := 102) C.1 C.2.1 dX15_holds_95 (by decide) (fun c9 => ?_) (fun c9 => ?_)
        · rw [if_pos c9] at hh
          refine lv_iconst (v := 0) C.1 C.2.1 dX15_holds_102 (by decide) ?_
          refine lv_goto (tgt := 118) C.1 C.2.1 dX15_holds_103 (by decide) ?_
          exact B118 _ hk4 _ _ _ _ _ _ _ _ _  hm hs (lv_sub hl [1, 2, 3, 4, 0] rfl) hh
        · rw [if_neg c9] at hh
          refine lv_iconst (v := 1) C.1 C.2.1 dX15_holds_98 (by decide) ?_
          refine lv_goto (tgt := 118) C.1 C.2.1 dX15_holds_99 (by decide) ?_
          exact B118 _ hk4 _ _ _ _ _ _ _ _ _  hm hs (lv_sub hl [1, 2, 3, 4, 0] rfl) hh
    · rw [if_pos c12] at hh
      refine lv_iload C.1 C.2.1 dX15_holds_65 (lv_at hl 4 rfl) ?_
      refine lv_iload C.1 C.2.1 dX15_holds_67 (lv_at hl 0 rfl) ?_
      refine lv_icmp_ne (tgt := 76) C.1 C.2.1 dX15_holds_69 (by decide) (fun c11 => ?_) (fun c11 => ?_)
      · rw [if_neg c11] at hh
        refine lv_iconst (v := 0) C.1 C.2.1 dX15_holds_76 (by decide) ?_
        refine lv_goto (tgt := 118) C.1 C.2.1 dX15_holds_77 (by decide) ?_
        exact B118 _ hk4 _ _ _ _ _ _ _ _ _  hm hs (lv_sub hl [1, 2, 3, 4, 0] rfl) hh
      · rw [if_pos c11] at hh
        refine lv_iconst (v := 1) C.1 C.2.1 dX15_holds_72 (by decide) ?_
        refine lv_goto (tgt := 118) C.1 C.2.1 dX15_holds_73 (by decide) ?_
        exact B118 _ hk4 _ _ _ _ _ _ _ _ _  hm hs (lv_sub hl [1, 2, 3, 4, 0] rfl) hh
  have B4 : ∀ n : Nat, ∀ (H : Heap) (locs : List Loc) (ls : Array Slot) (a0 : Nat) (v1 : Option Nat) (v2 : Int32) (v3 : Int32) , mHp (gD G) (gC G) (gB G) h H → va_S (fun q => gB G ≤ q) s.heap H locs → lv_has ls 7 [(0, va_rf (some a0)), (1, va_rf v1), (2, .int v2), (3, .int v3)] → mX15_holds_l4 h n a0 v1 v2 v3 = some res → W p l e ({ frames := 0, cells := 0, slots := 0, locals := 0 }) s m args below meth c H locs 0 0 Q (F0 m 4 ls []) := by
    intro n
    induction n with
    | zero => intro H locs ls a0 v1 v2 v3 hm hs hl hh; cases hh
    | succ n ih =>
      intro H locs ls a0 v1 v2 v3 hm hs hl hh
      unfold mX15_holds_l4 at hh
      refine lv_iload_n C.1 C.2.1 dX15_holds_4 rfl (lv_at hl 3 rfl) ?_
      refine r_aload_n C.1 C.2.1 dX15_holds_5 rfl (lv_at hl 0 rfl) ?_
      refine r_getI C hm flX15_25 dX15_holds_6 hh (fun x13 _ hh => ?_)
      refine lv_icmp_ge (tgt := 149) C.1 C.2.1 dX15_holds_9 (by decide) (fun c26 => ?_) (fun c26 => ?_)
      · rw [if_pos c26] at hh
        refine lv_iload_n C.1 C.2.1 dX15_holds_149 rfl (lv_at hl 2 rfl) ?_
        exact r_rbretP hQ C hr hm hs hh dX15_holds_150
      · rw [if_neg c26] at hh
        refine lv_iload_n C.1 C.2.1 dX15_holds_12 rfl (lv_at hl 2 rfl) ?_
        refine lv_if_eq (tgt := 149) C.1 C.2.1 dX15_holds_13 (by decide) (fun c25 => ?_) (fun c25 => ?_)
        · rw [if_pos c25] at hh
          refine lv_iload_n C.1 C.2.1 dX15_holds_149 rfl (lv_at hl 2 rfl) ?_
          exact r_rbretP hQ C hr hm hs hh dX15_holds_150
        · rw [if_neg c25] at hh
          refine r_aload_n C.1 C.2.1 dX15_holds_16 rfl (lv_at hl 1 rfl) ?_
          refine r_aload_n C.1 C.2.1 dX15_holds_17 rfl (lv_at hl 0 rfl) ?_
          refine r_getR C hm flX15_9 dX15_holds_18 hh (fun x14 _ hh => ?_)
          refine lv_iload_n C.1 C.2.1 dX15_holds_21 rfl (lv_at hl 3 rfl) ?_
          refine r_ald C hm dX15_holds_22 hh (fun x15 _ hh => ?_)
          refine r_ald C hm dX15_holds_23 hh (fun x16 _ hh => ?_)
          refine lv_istore (i := 4) (lv' := [(4, .int x16), (0, va_rf (some a0)), (1, va_rf v1), (2, .int v2), (3, .int v3)]) C.1 C.2.1 dX15_holds_24 hl (by decide) rfl (fun ls hl => ?_)
          refine r_aload_n C.1 C.2.1 dX15_holds_26 rfl (lv_at hl 1 rfl) ?_
          refine r_getR C hm flX15_21 dX15_holds_27 hh (fun x17 _ hh => ?_)
          refine lv_iload_n C.1 C.2.1 dX15_holds_30 rfl (lv_at hl 4 rfl) ?_
          refine r_zald C hm dX15_holds_31 hh (fun x18 _ hh => ?_)
          refine lv_if_eq (tgt := 46) C.1 C.2.1 dX15_holds_32 (by decide) (fun c24 => ?_) (fun c24 => ?_)
          · rw [if_pos c24] at hh
            refine r_aload_n C.1 C.2.1 dX15_holds_46 rfl (lv_at hl 1 rfl) ?_
            refine r_getR C hm flX15_18 dX15_holds_47 hh (fun x19 _ hh => ?_)
            refine lv_iload_n C.1 C.2.1 dX15_holds_50 rfl (lv_at hl 4 rfl) ?_
            refine r_ald C hm dX15_holds_51 hh (fun x20 _ hh => ?_)
            exact B52 _ ih _ _ _ _ _ _ _ _  hm hs (lv_sub hl [1, 2, 4, 0] rfl) hh
          · rw [if_neg c24] at hh
            refine r_aload_n C.1 C.2.1 dX15_holds_35 rfl (lv_at hl 2 rfl) ?_
            refine r_aload_n C.1 C.2.1 dX15_holds_36 rfl (lv_at hl 1 rfl) ?_
            refine r_getR C hm flX15_18 dX15_holds_37 hh (fun x21 _ hh => ?_)
            refine lv_iload_n C.1 C.2.1 dX15_holds_40 rfl (lv_at hl 4 rfl) ?_
            refine r_ald C hm dX15_holds_41 hh (fun x22 _ hh => ?_)
            refine r_ald C hm dX15_holds_42 hh (fun x23 _ hh => ?_)
            refine lv_goto (tgt := 52) C.1 C.2.1 dX15_holds_43 (by decide) ?_
            exact B52 _ ih _ _ _ _ _ _ _ _  hm hs (lv_sub hl [1, 2, 4, 0] rfl) hh
  unfold mX15_holds at hh
  refine lv_iconst (v := 1) C.1 C.2.1 dX15_holds_0 (by decide) ?_
  refine lv_istore_n (i := 2) (lv' := [(2, .int 1), (0, va_rf (some a0)), (1, va_rf a1)]) C.1 C.2.1 dX15_holds_1 rfl hl (by decide) (by simp [va_cat, vc_i, vc_l, vc_r]) (fun ls hl => ?_)
  refine lv_iconst (v := 0) C.1 C.2.1 dX15_holds_2 (by decide) ?_
  refine lv_istore_n (i := 3) (lv' := [(3, .int 0), (2, .int 1), (0, va_rf (some a0)), (1, va_rf a1)]) C.1 C.2.1 dX15_holds_3 rfl hl (by decide) rfl (fun ls hl => ?_)
  exact B4 FUEL _ _ _ _ _ _ _  hm hs (lv_sub hl [2, 3, 1, 0] rfl) hh
def mX12_broken_l2 (h : MHp) : Nat → Nat → Option Nat → Int32 → Option (Int32)
  | 0, _, _, _ => none
  | n + 1, a0, v1, v2 => (gI 13 1 h (some a0)).bind fun x1 => (if x1 ≤ v2 then some (-1) else (gR 13 5 h (some a0)).bind fun x2 => (gAR 27 h x2 v2).bind fun x3 => (rcv 16 h x3).bind fun b5 => (mX15_holds h b5 v1).bind fun r4 => (if r4 = 0 then mX12_broken_l2 h n a0 v1 (v2 + 1) else some v2))
def mX12_broken (h : MHp) (a0 : Nat) (a1 : Option Nat) : Option (Int32) := mX12_broken_l2 h FUEL a0 a1 0
set_option maxRecDepth 100000 in
set_option maxHeartbeats 4000000 in
theorem c_X12_broken (l : Launch) (G : Env0) (h : MHp) (a0 : Nat) (a1 : Option Nat) (res : Int32) (hh : mX12_broken h a0 a1 = some res) : MG l yX12_broken cX12_broken 3 (some .int) 1 26 0 0 G h [.ref a0, va_rf a1] (some (.int res)) (h) := by
  refine MG_of (own := RX12) (plainFor_of_name (by decide)) rfl (by simp [lg_sl, va_cat, vc_i, vc_l, vc_r]) ?_
  intro p e s m args below meth c Q ls hQ C X hin hm hs hl hr
  have hl : lv_has ls 3 [(0, .ref a0), (1, va_rf a1)] := by simpa [lv_args, va_cat, vc_i, vc_l, vc_r] using hl
  have hl : lv_has ls 3 [(0, va_rf (some a0)), (1, va_rf a1)] := hl
  have B2 : ∀ n : Nat, ∀ (H : Heap) (locs : List Loc) (ls : Array Slot) (a0 : Nat) (v1 : Option Nat) (v2 : Int32) , mHp (gD G) (gC G) (gB G) h H → va_S (fun q => gB G ≤ q) s.heap H locs → lv_has ls 3 [(0, va_rf (some a0)), (1, va_rf v1), (2, .int v2)] → mX12_broken_l2 h n a0 v1 v2 = some res → W p l e ({ frames := 1, cells := 0, slots := 0, locals := 26 }) s m args below meth c H locs 0 0 Q (F0 m 2 ls []) := by
    intro n
    induction n with
    | zero => intro H locs ls a0 v1 v2 hm hs hl hh; cases hh
    | succ n ih =>
      intro H locs ls a0 v1 v2 hm hs hl hh
      unfold mX12_broken_l2 at hh
      refine lv_iload_n C.1 C.2.1 dX12_broken_2 rfl (lv_at hl 2 rfl) ?_
      refine r_aload_n C.1 C.2.1 dX12_broken_3 rfl (lv_at hl 0 rfl) ?_
      refine r_getI C hm flX12_32 dX12_broken_4 hh (fun x1 _ hh => ?_)
      refine lv_icmp_ge (tgt := 31) C.1 C.2.1 dX12_broken_7 (by decide) (fun c7 => ?_) (fun c7 => ?_)
      · rw [if_pos c7] at hh
        refine lv_iconst (v := (-1)) C.1 C.2.1 dX12_broken_31 (by decide) ?_
        exact r_iretP hQ C hr hm hs hh dX12_broken_32
      · rw [if_neg c7] at hh
        refine r_aload_n C.1 C.2.1 dX12_broken_10 rfl (lv_at hl 0 rfl) ?_
        refine r_getR C hm flX12_24 dX12_broken_11 hh (fun x2 _ hh => ?_)
        refine lv_iload_n C.1 C.2.1 dX12_broken_14 rfl (lv_at hl 2 rfl) ?_
        refine r_ald_q C hm dX12_broken_15 (kd := 27) (by decide) (t0 := 7) rfl hh (fun x3 _ hh => ?_)
        refine r_aload_n C.1 C.2.1 dX12_broken_16 rfl (lv_at hl 1 rfl) ?_
        refine r_cV C X hm hs mlX12_35 mvX12_35 hh (vv := fun r => some (.int r)) (hp := fun r => h) (fun b r hg => c_X15_holds l G h b _ r hg) rfl rfl (Nat.le_of_ble_eq_true rfl) (Nat.le_of_ble_eq_true rfl) (Nat.le_of_ble_eq_true rfl) hl.1 dX12_broken_17 (fun b5 r4 H locs hgr4 hh hm hs => ?_)
        refine W.eq (g2 := F0 m 20 ls [.int r4]) rfl ?_
        refine lv_if_eq (tgt := 25) C.1 C.2.1 dX12_broken_20 (by decide) (fun c6 => ?_) (fun c6 => ?_)
        · rw [if_pos c6] at hh
          refine lv_iinc (v := (v2 + 1)) (lv' := [(2, .int (v2 + 1)), (0, va_rf (some a0)), (1, va_rf v1)]) C.1 C.2.1 dX12_broken_25 hl (k := 2) rfl rfl (by decide) (by simp [va_cat, vc_i, vc_l, vc_r]) (fun ls hl => ?_)
          refine lv_goto (tgt := 2) C.1 C.2.1 dX12_broken_28 (by decide) ?_
          exact ih _ _ _ _ _ _  hm hs (lv_sub hl [1, 2, 0] rfl) hh
        · rw [if_neg c6] at hh
          refine lv_iload_n C.1 C.2.1 dX12_broken_23 rfl (lv_at hl 2 rfl) ?_
          exact r_iretP hQ C hr hm hs hh dX12_broken_24
  unfold mX12_broken at hh
  refine lv_iconst (v := 0) C.1 C.2.1 dX12_broken_0 (by decide) ?_
  refine lv_istore_n (i := 2) (lv' := [(2, .int 0), (0, va_rf (some a0)), (1, va_rf a1)]) C.1 C.2.1 dX12_broken_1 rfl hl (by decide) (by simp [va_cat, vc_i, vc_l, vc_r]) (fun ls hl => ?_)
  exact B2 FUEL _ _ _ _ _ _  hm hs (lv_sub hl [1, 2, 0] rfl) hh
def mX14_init (h : MHp) (a0 : Nat) : Option (MHp) := (pI 15 0 h (some a0) (-1)).bind fun h1 => (pI 15 1 h1 (some a0) (-1)).bind fun h2 => (pI 15 2 h2 (some a0) (-1)).bind fun h3 => (some (nA h3 23 100)).bind fun h4 => (pR 15 4 h4 (some a0) (some (hS h3))).bind fun h5 => (some (nA h5 21 100)).bind fun h6 => (pR 15 5 h6 (some a0) (some (hS h5))).bind fun h7 => (some (nA h7 21 100)).bind fun h8 => (pR 15 6 h8 (some a0) (some (hS h7))).bind fun h9 => some h9
set_option maxRecDepth 100000 in
set_option maxHeartbeats 4000000 in
theorem c_X14_init (l : Launch) (G : Env0) (h : MHp) (a0 : Nat) (res : MHp) (hh : mX14_init h a0 = some res) : MG l yX14_init cX14_init 1 none 1 12 3 300 G h [.ref a0] (none) (res) := by
  refine MG_of (own := RX14) (plainFor_of_name (by decide)) rfl (Nat.le_of_ble_eq_true rfl) ?_
  intro p e s m args below meth c Q ls hQ C X hin hm hs hl hr
  have hl : lv_has ls 1 [(0, va_rf (some a0))] := hl
  unfold mX14_init at hh
  refine r_aload_n C.1 C.2.1 dX14_init_0 rfl (lv_at hl 0 rfl) ?_
  refine r_objInit C (in_tbl q_1696 rfl) (in_tbl q_37 rfl) (in_tbl q_38 rfl) hl.1 dX14_init_1 (Nat.le_of_ble_eq_true rfl) (Nat.le_of_ble_eq_true rfl) ?_
  refine r_aload_n C.1 C.2.1 dX14_init_4 rfl (lv_at hl 0 rfl) ?_
  refine lv_iconst (v := (-1)) C.1 C.2.1 dX14_init_5 (by decide) ?_
  refine r_putI C hm hs flX14_9 (Or.inl fm_15_0) dX14_init_6 hh (fun h1 H locs _ hh hm hs => ?_)
  refine r_aload_n C.1 C.2.1 dX14_init_9 rfl (lv_at hl 0 rfl) ?_
  refine lv_iconst (v := (-1)) C.1 C.2.1 dX14_init_10 (by decide) ?_
  refine r_putI C hm hs flX14_15 (Or.inl fm_15_1) dX14_init_11 hh (fun h2 H locs _ hh hm hs => ?_)
  refine r_aload_n C.1 C.2.1 dX14_init_14 rfl (lv_at hl 0 rfl) ?_
  refine lv_iconst (v := (-1)) C.1 C.2.1 dX14_init_15 (by decide) ?_
  refine r_putI C hm hs flX14_18 (Or.inl fm_15_2) dX14_init_16 hh (fun h3 H locs _ hh hm hs => ?_)
  refine r_aload_n C.1 C.2.1 dX14_init_19 rfl (lv_at hl 0 rfl) ?_
  refine lv_bipush (v := 100) C.1 C.2.1 dX14_init_20 (by decide) ?_
  refine r_newaG C hm hs (kd := 23) (w := 1) (by decide) aw23 dX14_init_22 (N := 100) (by decide) (by decide) (by decide) hh (Nat.le_of_ble_eq_true rfl) (Nat.le_of_ble_eq_true rfl) (fun h4 H hh hm hs => ?_)
  refine r_putR C hm hs flX14_21 (Or.inr ⟨ffX14_21, hin rfl⟩) dX14_init_24 hh (fun h5 H locs _ hh hm hs => ?_)
  refine r_aload_n C.1 C.2.1 dX14_init_27 rfl (lv_at hl 0 rfl) ?_
  refine lv_bipush (v := 100) C.1 C.2.1 dX14_init_28 (by decide) ?_
  refine r_newaG C hm hs (kd := 21) (w := 8) (by decide) aw21 dX14_init_30 (N := 100) (by decide) (by decide) (by decide) hh (Nat.le_of_ble_eq_true rfl) (Nat.le_of_ble_eq_true rfl) (fun h6 H hh hm hs => ?_)
  refine r_putR C hm hs flX14_25 (Or.inr ⟨ffX14_25, hin rfl⟩) dX14_init_32 hh (fun h7 H locs _ hh hm hs => ?_)
  refine r_aload_n C.1 C.2.1 dX14_init_35 rfl (lv_at hl 0 rfl) ?_
  refine lv_bipush (v := 100) C.1 C.2.1 dX14_init_36 (by decide) ?_
  refine r_newaG C hm hs (kd := 21) (w := 8) (by decide) aw21 dX14_init_38 (N := 100) (by decide) (by decide) (by decide) hh (Nat.le_of_ble_eq_true rfl) (Nat.le_of_ble_eq_true rfl) (fun h8 H hh hm hs => ?_)
  refine r_putR C hm hs flX14_29 (Or.inr ⟨ffX14_29, hin rfl⟩) dX14_init_40 hh (fun h9 H locs _ hh hm hs => ?_)
  refine W.widen (k := 3) (n := 300) (by omega) (by omega) ?_
  exact r_vretW hQ C hr hm hs hh dX14_init_43
def mX15_init (h : MHp) (a0 : Nat) : Option (MHp) := (some (nA h 20 12)).bind fun h1 => (pR 16 1 h1 (some a0) (some (hS h))).bind fun h2 => (some (nA h2 20 12)).bind fun h3 => (pR 16 2 h3 (some a0) (some (hS h2))).bind fun h4 => (some (nA h4 20 12)).bind fun h5 => (pR 16 3 h5 (some a0) (some (hS h4))).bind fun h6 => (some (nA h6 23 12)).bind fun h7 => (pR 16 4 h7 (some a0) (some (hS h6))).bind fun h8 => some h8
set_option maxRecDepth 100000 in
set_option maxHeartbeats 4000000 in
theorem c_X15_init (l : Launch) (G : Env0) (h : MHp) (a0 : Nat) (res : MHp) (hh : mX15_init h a0 = some res) : MG l yX15_init cX15_init 1 none 1 12 4 48 G h [.ref a0] (none) (res) := by
  refine MG_of (own := RX15) (plainFor_of_name (by decide)) rfl (Nat.le_of_ble_eq_true rfl) ?_
  intro p e s m args below meth c Q ls hQ C X hin hm hs hl hr
  have hl : lv_has ls 1 [(0, va_rf (some a0))] := hl
  unfold mX15_init at hh
  refine r_aload_n C.1 C.2.1 dX15_init_0 rfl (lv_at hl 0 rfl) ?_
  refine r_objInit C (in_tbl q_1645 rfl) (in_tbl q_37 rfl) (in_tbl q_38 rfl) hl.1 dX15_init_1 (Nat.le_of_ble_eq_true rfl) (Nat.le_of_ble_eq_true rfl) ?_
  refine r_aload_n C.1 C.2.1 dX15_init_4 rfl (lv_at hl 0 rfl) ?_
  refine lv_bipush (v := 12) C.1 C.2.1 dX15_init_5 (by decide) ?_
  refine r_newaG C hm hs (kd := 20) (w := 4) (by decide) aw20 dX15_init_7 (N := 12) (by decide) (by decide) (by decide) hh (Nat.le_of_ble_eq_true rfl) (Nat.le_of_ble_eq_true rfl) (fun h1 H hh hm hs => ?_)
  refine r_putR C hm hs flX15_9 (Or.inr ⟨ffX15_9, hin rfl⟩) dX15_init_9 hh (fun h2 H locs _ hh hm hs => ?_)
  refine r_aload_n C.1 C.2.1 dX15_init_12 rfl (lv_at hl 0 rfl) ?_
  refine lv_bipush (v := 12) C.1 C.2.1 dX15_init_13 (by decide) ?_
  refine r_newaG C hm hs (kd := 20) (w := 4) (by decide) aw20 dX15_init_15 (N := 12) (by decide) (by decide) (by decide) hh (Nat.le_of_ble_eq_true rfl) (Nat.le_of_ble_eq_true rfl) (fun h3 H hh hm hs => ?_)
  refine r_putR C hm hs flX15_15 (Or.inr ⟨ffX15_15, hin rfl⟩) dX15_init_17 hh (fun h4 H locs _ hh hm hs => ?_)
  refine r_aload_n C.1 C.2.1 dX15_init_20 rfl (lv_at hl 0 rfl) ?_
  refine lv_bipush (v := 12) C.1 C.2.1 dX15_init_21 (by decide) ?_
  refine r_newaG C hm hs (kd := 20) (w := 4) (by decide) aw20 dX15_init_23 (N := 12) (by decide) (by decide) (by decide) hh (Nat.le_of_ble_eq_true rfl) (Nat.le_of_ble_eq_true rfl) (fun h5 H hh hm hs => ?_)
  refine r_putR C hm hs flX15_18 (Or.inr ⟨ffX15_18, hin rfl⟩) dX15_init_25 hh (fun h6 H locs _ hh hm hs => ?_)
  refine r_aload_n C.1 C.2.1 dX15_init_28 rfl (lv_at hl 0 rfl) ?_
  refine lv_bipush (v := 12) C.1 C.2.1 dX15_init_29 (by decide) ?_
  refine r_newaG C hm hs (kd := 23) (w := 1) (by decide) aw23 dX15_init_31 (N := 12) (by decide) (by decide) (by decide) hh (Nat.le_of_ble_eq_true rfl) (Nat.le_of_ble_eq_true rfl) (fun h7 H hh hm hs => ?_)
  refine r_putR C hm hs flX15_21 (Or.inr ⟨ffX15_21, hin rfl⟩) dX15_init_33 hh (fun h8 H locs _ hh hm hs => ?_)
  refine W.widen (k := 4) (n := 48) (by omega) (by omega) ?_
  exact r_vretW hQ C hr hm hs hh dX15_init_36

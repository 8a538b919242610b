def mJ0_coder_7d493 (h : MHp) (a0 : Nat) : Option (Int32) := (if (1 : Int32) = 0 then some 1 else (sxC a0).bind fun _ => some 0)
set_option maxRecDepth 100000 in
set_option maxHeartbeats 4000000 in
theorem c_J0_coder_7d493 (l : Launch) (G : Env0) (h : MHp) (a0 : Nat) (res : Int32) (hh : mJ0_coder_7d493 h a0 = some res) : MG l yJ0_coder_7d493 cJ0_coder_7d493 1 (some .byte) 0 0 0 0 G h [.ref (G.2.2.2.2.1 a0)] (some (.int res)) (h) := by
  refine MG_of (own := RJ0) (plainFor_of_name (by decide)) rfl (Nat.le_of_ble_eq_true rfl) ?_
  intro p e s m args below meth c Q ls hQ C X hin hm hs hl hr
  have hl : lv_has ls 1 [(0, .ref (G.2.2.2.2.1 a0))] := hl
  unfold mJ0_coder_7d493 at hh
  refine r_getsC C X hs (in_tbl q_1561 rfl) dJ0_coder_7d493_0 ?_
  refine lv_if_eq (tgt := 13) C.1 C.2.1 dJ0_coder_7d493_3 (by decide) (fun c1 => ?_) (fun c1 => ?_)
  · rw [if_pos c1] at hh
    refine lv_iconst (v := 1) C.1 C.2.1 dJ0_coder_7d493_13 (by decide) ?_
    exact r_byretP hQ C hr hm hs hh (by decide) dJ0_coder_7d493_14
  · rw [if_neg c1] at hh
    refine lv_aload_n C.1 C.2.1 dJ0_coder_7d493_6 rfl (lv_at hl 0 rfl) ?_
    refine r_sgetC C X hs (in_tbl q_2014 rfl) dJ0_coder_7d493_7 hh (fun hh => ?_)
    refine lv_goto (tgt := 14) C.1 C.2.1 dJ0_coder_7d493_10 (by decide) ?_
    exact r_byretP hQ C hr hm hs hh (by decide) dJ0_coder_7d493_14
def mJ0_length_8abf5 (h : MHp) (a0 : Nat) : Option (Int32) := (sxC a0).bind fun _ => (sxC a0).bind fun _ => (sxC a0).bind fun _ => (mJ0_coder_7d493 h a0).bind fun r1 => some ((Int32.ofNat (sxL.getD a0 0)) >>> (r1 &&& 31))
set_option maxRecDepth 100000 in
set_option maxHeartbeats 4000000 in
theorem c_J0_length_8abf5 (l : Launch) (G : Env0) (h : MHp) (a0 : Nat) (res : Int32) (hh : mJ0_length_8abf5 h a0 = some res) : MG l yJ0_length_8abf5 cJ0_length_8abf5 1 (some .int) 1 20 0 0 G h [.ref (G.2.2.2.2.1 a0)] (some (.int res)) (h) := by
  refine MG_of (own := RJ0) (plainFor_of_name (by decide)) rfl (Nat.le_of_ble_eq_true rfl) ?_
  intro p e s m args below meth c Q ls hQ C X hin hm hs hl hr
  have hl : lv_has ls 1 [(0, .ref (G.2.2.2.2.1 a0))] := hl
  unfold mJ0_length_8abf5 at hh
  refine lv_aload_n C.1 C.2.1 dJ0_length_8abf5_0 rfl (lv_at hl 0 rfl) ?_
  refine r_sgetV C X hs (in_tbl q_2013 rfl) dJ0_length_8abf5_1 hh (fun hh => ?_)
  refine r_vlen C X hs dJ0_length_8abf5_4 hh (fun hh => ?_)
  refine lv_aload_n C.1 C.2.1 dJ0_length_8abf5_5 rfl (lv_at hl 0 rfl) ?_
  refine r_cT C X hm hs mlJ0_335 (in_tbl q_1557 rfl) mtJ0_335 hh (vv := fun r => some (.int r)) (hp := fun r => h) (fun r hg => c_J0_coder_7d493 l G h _  r hg) rfl rfl (Nat.le_of_ble_eq_true rfl) (Nat.le_of_ble_eq_true rfl) (Nat.le_of_ble_eq_true rfl) hl.1 dJ0_length_8abf5_6 (fun r1 H locs hgr1 hh hm hs => ?_)
  refine W.eq (g2 := F0 m 9 ls [.int r1, .int (Int32.ofNat (sxL.getD a0 0))]) rfl ?_
  refine lv_ishr C.1 C.2.1 dJ0_length_8abf5_9 ?_
  exact r_iretP hQ C hr hm hs hh dJ0_length_8abf5_10
def mJ0_isLatin1_aae02 (h : MHp) (a0 : Nat) : Option (Int32) := (if (1 : Int32) = 0 then some 0 else (sxC a0).bind fun _ => (if (0 : Int32) = 0 then some 1 else some 0))
set_option maxRecDepth 100000 in
set_option maxHeartbeats 4000000 in
theorem c_J0_isLatin1_aae02 (l : Launch) (G : Env0) (h : MHp) (a0 : Nat) (res : Int32) (hh : mJ0_isLatin1_aae02 h a0 = some res) : MG l yJ0_isLatin1_aae02 cJ0_isLatin1_aae02 1 (some .boolean) 0 0 0 0 G h [.ref (G.2.2.2.2.1 a0)] (some (.int res)) (h) := by
  refine MG_of (own := RJ0) (plainFor_of_name (by decide)) rfl (Nat.le_of_ble_eq_true rfl) ?_
  intro p e s m args below meth c Q ls hQ C X hin hm hs hl hr
  have hl : lv_has ls 1 [(0, .ref (G.2.2.2.2.1 a0))] := hl
  unfold mJ0_isLatin1_aae02 at hh
  refine r_getsC C X hs (in_tbl q_1561 rfl) dJ0_isLatin1_aae02_0 ?_
  refine lv_if_eq (tgt := 17) C.1 C.2.1 dJ0_isLatin1_aae02_3 (by decide) (fun c2 => ?_) (fun c2 => ?_)
  · rw [if_pos c2] at hh
    refine lv_iconst (v := 0) C.1 C.2.1 dJ0_isLatin1_aae02_17 (by decide) ?_
    exact r_bretP hQ C hr hm hs (by decide) hh dJ0_isLatin1_aae02_18
  · rw [if_neg c2] at hh
    refine lv_aload_n C.1 C.2.1 dJ0_isLatin1_aae02_6 rfl (lv_at hl 0 rfl) ?_
    refine r_sgetC C X hs (in_tbl q_2014 rfl) dJ0_isLatin1_aae02_7 hh (fun hh => ?_)
    refine lv_if_ne (tgt := 17) C.1 C.2.1 dJ0_isLatin1_aae02_10 (by decide) (fun c1 => ?_) (fun c1 => ?_)
    · rw [if_neg c1] at hh
      refine lv_iconst (v := 0) C.1 C.2.1 dJ0_isLatin1_aae02_17 (by decide) ?_
      exact r_bretP hQ C hr hm hs (by decide) hh dJ0_isLatin1_aae02_18
    · rw [if_pos c1] at hh
      refine lv_iconst (v := 1) C.1 C.2.1 dJ0_isLatin1_aae02_13 (by decide) ?_
      refine lv_goto (tgt := 18) C.1 C.2.1 dJ0_isLatin1_aae02_14 (by decide) ?_
      exact r_bretP hQ C hr hm hs (by decide) hh dJ0_isLatin1_aae02_18
def mJ3_checkIndex_8e157 (h : MHp) (a0 : Int32) (a1 : Int32) : Option (Int32) := (if a0 < 0 then none else (if a0 < a1 then some a0 else none))
set_option maxRecDepth 100000 in
set_option maxHeartbeats 4000000 in
theorem c_J3_checkIndex_8e157 (l : Launch) (G : Env0) (h : MHp) (a0 : Int32) (a1 : Int32) (a2 : Option Nat) (res : Int32) (hh : mJ3_checkIndex_8e157 h a0 a1 = some res) : MG l yJ3_checkIndex_8e157 cJ3_checkIndex_8e157 3 (some .int) 0 0 0 0 G h [.int a0, .int a1, va_rf a2] (some (.int res)) (h) := by
  refine MG_of (own := RJ3) (plainFor_of_name (by decide)) rfl (by simp [lg_sl, va_cat, vc_i, vc_l, vc_r]) ?_
  intro p e s m args below meth c Q ls hQ C X hin hm hs hl hr
  have hl : lv_has ls 3 [(0, .int a0), (1, .int a1), (2, va_rf a2)] := by simpa [lv_args, va_cat, vc_i, vc_l, vc_r] using hl
  have hl : lv_has ls 3 [(0, .int a0), (1, .int a1), (2, va_rf a2)] := hl
  unfold mJ3_checkIndex_8e157 at hh
  refine lv_iload_n C.1 C.2.1 dJ3_checkIndex_8e157_0 rfl (lv_at hl 0 rfl) ?_
  refine lv_if_lt (tgt := 9) C.1 C.2.1 dJ3_checkIndex_8e157_1 (by decide) (fun c2 => ?_) (fun c2 => ?_)
  · rw [if_pos c2] at hh
    refine r_aload_n C.1 C.2.1 dJ3_checkIndex_8e157_9 rfl (lv_at hl 2 rfl) ?_
    refine lv_iload_n C.1 C.2.1 dJ3_checkIndex_8e157_10 rfl (lv_at hl 0 rfl) ?_
    refine lv_iload_n C.1 C.2.1 dJ3_checkIndex_8e157_11 rfl (lv_at hl 1 rfl) ?_
    cases hh
  · rw [if_neg c2] at hh
    refine lv_iload_n C.1 C.2.1 dJ3_checkIndex_8e157_4 rfl (lv_at hl 0 rfl) ?_
    refine lv_iload_n C.1 C.2.1 dJ3_checkIndex_8e157_5 rfl (lv_at hl 1 rfl) ?_
    refine lv_icmp_lt (tgt := 16) C.1 C.2.1 dJ3_checkIndex_8e157_6 (by decide) (fun c1 => ?_) (fun c1 => ?_)
    · rw [if_pos c1] at hh
      refine lv_iload_n C.1 C.2.1 dJ3_checkIndex_8e157_16 rfl (lv_at hl 0 rfl) ?_
      exact r_iretP hQ C hr hm hs hh dJ3_checkIndex_8e157_17
    · rw [if_neg c1] at hh
      refine r_aload_n C.1 C.2.1 dJ3_checkIndex_8e157_9 rfl (lv_at hl 2 rfl) ?_
      refine lv_iload_n C.1 C.2.1 dJ3_checkIndex_8e157_10 rfl (lv_at hl 0 rfl) ?_
      refine lv_iload_n C.1 C.2.1 dJ3_checkIndex_8e157_11 rfl (lv_at hl 1 rfl) ?_
      cases hh
def mJ0_checkIndex_df160 (h : MHp) (a0 : Int32) (a1 : Int32) : Option (Unit) := (mJ3_checkIndex_8e157 h a0 a1).bind fun r2 => some ()
set_option maxRecDepth 100000 in
set_option maxHeartbeats 4000000 in
theorem c_J0_checkIndex_df160 (l : Launch) (G : Env0) (h : MHp) (a0 : Int32) (a1 : Int32) (res : Unit) (hh : mJ0_checkIndex_df160 h a0 a1 = some res) : MG l yJ0_checkIndex_df160 cJ0_checkIndex_df160 2 none 1 22 0 0 G h [.int a0, .int a1] (none) (h) := by
  refine MG_of (own := RJ0) (plainFor_of_name (by decide)) rfl (Nat.le_of_ble_eq_true rfl) ?_
  intro p e s m args below meth c Q ls hQ C X hin hm hs hl hr
  have hl : lv_has ls 2 [(0, .int a0), (1, .int a1)] := hl
  unfold mJ0_checkIndex_df160 at hh
  refine lv_iload_n C.1 C.2.1 dJ0_checkIndex_df160_0 rfl (lv_at hl 0 rfl) ?_
  refine lv_iload_n C.1 C.2.1 dJ0_checkIndex_df160_1 rfl (lv_at hl 1 rfl) ?_
  refine r_getsQ C X hs (in_tbl q_1577 rfl) dJ0_checkIndex_df160_2 (fun o1 => ?_)
  refine r_cS C X hm hs mlJ0_1059 msJ0_1059 hh (vv := fun r => some (.int r)) (hp := fun r => h) (fun r hg => c_J3_checkIndex_8e157 l G h _ _ _ r hg) rfl rfl (Nat.le_of_ble_eq_true rfl) (Nat.le_of_ble_eq_true rfl) (Nat.le_of_ble_eq_true rfl) hl.1 dJ0_checkIndex_df160_5 (fun r2 H locs hgr2 hh hm hs => ?_)
  refine W.eq (g2 := F0 m 8 ls [.int r2]) rfl ?_
  refine lv_pop C.1 C.2.1 dJ0_checkIndex_df160_8 rfl ?_
  exact r_vretP hQ C hr hm hs dJ0_checkIndex_df160_9
def mJ1_charAt_3b067 (h : MHp) (a0 : Nat) (a1 : Int32) : Option (Int32) := (sxC a0).bind fun _ => (mJ0_checkIndex_df160 h a1 (Int32.ofNat (sxL.getD a0 0))).bind fun r1 => (sxC a0).bind fun _ => (txB a0 a1).bind fun x2 => (rC (((x2 &&& 255).toUInt32 % 65536).toInt32)).bind fun _ => some (((x2 &&& 255).toUInt32 % 65536).toInt32)
set_option maxRecDepth 100000 in
set_option maxHeartbeats 4000000 in
theorem c_J1_charAt_3b067 (l : Launch) (G : Env0) (h : MHp) (a0 : Nat) (a1 : Int32) (res : Int32) (hh : mJ1_charAt_3b067 h a0 a1 = some res) : MG l yJ1_charAt_3b067 cJ1_charAt_3b067 2 (some .char) 2 43 0 0 G h [.ref (G.2.2.2.2.2 a0), .int a1] (some (.int res)) (h) := by
  refine MG_of (own := RJ1) (plainFor_of_name (by decide)) rfl (Nat.le_of_ble_eq_true rfl) ?_
  intro p e s m args below meth c Q ls hQ C X hin hm hs hl hr
  have hl : lv_has ls 2 [(0, .ref (G.2.2.2.2.2 a0)), (1, .int a1)] := hl
  unfold mJ1_charAt_3b067 at hh
  refine lv_iload_n C.1 C.2.1 dJ1_charAt_3b067_0 rfl (lv_at hl 1 rfl) ?_
  refine lv_aload_n C.1 C.2.1 dJ1_charAt_3b067_1 rfl (lv_at hl 0 rfl) ?_
  refine r_vlen C X hs dJ1_charAt_3b067_2 hh (fun hh => ?_)
  refine r_cS C X hm hs mlJ1_9 msJ1_9 hh (vv := fun r => none) (hp := fun r => h) (fun r hg => c_J0_checkIndex_df160 l G h _ _ r hg) rfl rfl (Nat.le_of_ble_eq_true rfl) (Nat.le_of_ble_eq_true rfl) (Nat.le_of_ble_eq_true rfl) hl.1 dJ1_charAt_3b067_3 (fun r1 H locs hgr1 hh hm hs => ?_)
  refine W.eq (g2 := F0 m 6 ls []) rfl ?_
  refine lv_aload_n C.1 C.2.1 dJ1_charAt_3b067_6 rfl (lv_at hl 0 rfl) ?_
  refine lv_iload_n C.1 C.2.1 dJ1_charAt_3b067_7 rfl (lv_at hl 1 rfl) ?_
  refine r_vald C X hs dJ1_charAt_3b067_8 hh (fun x2 _ hh => ?_)
  refine lv_sipush (v := 255) C.1 C.2.1 dJ1_charAt_3b067_9 (by decide) ?_
  refine lv_iand C.1 C.2.1 dJ1_charAt_3b067_12 ?_
  refine lv_i2c (v := ((x2 &&& 255).toUInt32 % 65536).toInt32) C.1 C.2.1 dJ1_charAt_3b067_13 rfl ?_
  exact r_rcretP hQ C hr hm hs hh dJ1_charAt_3b067_14
def mJ0_charAt_5068e (h : MHp) (a0 : Nat) (a1 : Int32) : Option (Int32) := (sxC a0).bind fun _ => (mJ0_isLatin1_aae02 h a0).bind fun r1 => (if r1 = 0 then (sxC a0).bind fun _ => none else (sxC a0).bind fun _ => (mJ1_charAt_3b067 h a0 a1).bind fun r2 => (rC r2).bind fun _ => some r2)
set_option maxRecDepth 100000 in
set_option maxHeartbeats 4000000 in
theorem c_J0_charAt_5068e (l : Launch) (G : Env0) (h : MHp) (a0 : Nat) (a1 : Int32) (res : Int32) (hh : mJ0_charAt_5068e h a0 a1 = some res) : MG l yJ0_charAt_5068e cJ0_charAt_5068e 2 (some .char) 3 64 0 0 G h [.ref (G.2.2.2.2.1 a0), .int a1] (some (.int res)) (h) := by
  refine MG_of (own := RJ0) (plainFor_of_name (by decide)) rfl (Nat.le_of_ble_eq_true rfl) ?_
  intro p e s m args below meth c Q ls hQ C X hin hm hs hl hr
  have hl : lv_has ls 2 [(0, .ref (G.2.2.2.2.1 a0)), (1, .int a1)] := hl
  unfold mJ0_charAt_5068e at hh
  refine lv_aload_n C.1 C.2.1 dJ0_charAt_5068e_0 rfl (lv_at hl 0 rfl) ?_
  refine r_cT C X hm hs mlJ0_492 (in_tbl q_1567 rfl) mtJ0_492 hh (vv := fun r => some (.int r)) (hp := fun r => h) (fun r hg => c_J0_isLatin1_aae02 l G h _  r hg) rfl rfl (Nat.le_of_ble_eq_true rfl) (Nat.le_of_ble_eq_true rfl) (Nat.le_of_ble_eq_true rfl) hl.1 dJ0_charAt_5068e_1 (fun r1 H locs hgr1 hh hm hs => ?_)
  refine W.eq (g2 := F0 m 4 ls [.int r1]) rfl ?_
  refine lv_if_eq (tgt := 16) C.1 C.2.1 dJ0_charAt_5068e_4 (by decide) (fun c3 => ?_) (fun c3 => ?_)
  · rw [if_pos c3] at hh
    refine lv_aload_n C.1 C.2.1 dJ0_charAt_5068e_16 rfl (lv_at hl 0 rfl) ?_
    refine r_sgetV C X hs (in_tbl q_2013 rfl) dJ0_charAt_5068e_17 hh (fun hh => ?_)
    refine lv_iload_n C.1 C.2.1 dJ0_charAt_5068e_20 rfl (lv_at hl 1 rfl) ?_
    cases hh
  · rw [if_neg c3] at hh
    refine lv_aload_n C.1 C.2.1 dJ0_charAt_5068e_7 rfl (lv_at hl 0 rfl) ?_
    refine r_sgetV C X hs (in_tbl q_2013 rfl) dJ0_charAt_5068e_8 hh (fun hh => ?_)
    refine lv_iload_n C.1 C.2.1 dJ0_charAt_5068e_11 rfl (lv_at hl 1 rfl) ?_
    refine r_cS C X hm hs mlJ0_495 msJ0_495 hh (vv := fun r => some (.int r)) (hp := fun r => h) (fun r hg => c_J1_charAt_3b067 l G h _ _ r hg) rfl rfl (Nat.le_of_ble_eq_true rfl) (Nat.le_of_ble_eq_true rfl) (Nat.le_of_ble_eq_true rfl) hl.1 dJ0_charAt_5068e_12 (fun r2 H locs hgr2 hh hm hs => ?_)
    refine W.eq (g2 := F0 m 15 ls [.int r2]) rfl ?_
    exact r_rcretP hQ C hr hm hs hh dJ0_charAt_5068e_15
def mX16_wordOf_l4 (h : MHp) : Nat → Nat → Int64 → Int32 → Option (Int64)
  | 0, _, _, _ => none
  | n + 1, v0, v1, v3 => (sxC v0).bind fun _ => (mJ0_length_8abf5 h v0).bind fun r1 => (if r1 ≤ v3 then some v1 else (sxC v0).bind fun _ => (mJ0_charAt_5068e h v0 v3).bind fun r2 => mX16_wordOf_l4 h n v0 ((32 * v1) + ((r2 - 97) + 1).toInt64) (v3 + 1))
def mX16_wordOf (h : MHp) (a0 : Nat) : Option (Int64) := mX16_wordOf_l4 h FUEL a0 0 0
set_option maxRecDepth 100000 in
set_option maxHeartbeats 4000000 in
theorem c_X16_wordOf (l : Launch) (G : Env0) (h : MHp) (a0 : Nat) (res : Int64) (hh : mX16_wordOf h a0 = some res) : MG l yX16_wordOf cX16_wordOf 4 (some .long) 4 85 0 0 G h [.ref (G.2.2.2.2.1 a0)] (some (.long res)) (h) := by
  refine MG_of (own := RX16) (plainFor_of_name (by decide)) rfl (Nat.le_of_ble_eq_true rfl) ?_
  intro p e s m args below meth c Q ls hQ C X hin hm hs hl hr
  have hl : lv_has ls 4 [(0, .ref (G.2.2.2.2.1 a0))] := hl
  have B4 : ∀ n : Nat, ∀ (H : Heap) (locs : List Loc) (ls : Array Slot) (v0 : Nat) (v1 : Int64) (v3 : Int32) , mHp (gD G) (gC G) (gB G) h H → va_S (fun q => gB G ≤ q) s.heap H locs → lv_has ls 4 [(0, .ref (G.2.2.2.2.1 v0)), (1, .long v1), (3, .int v3)] → mX16_wordOf_l4 h n v0 v1 v3 = some res → W p l e ({ frames := 4, cells := 0, slots := 0, locals := 85 }) s m args below meth c H locs 0 0 Q (F0 m 4 ls []) := by
    intro n
    induction n with
    | zero => intro H locs ls v0 v1 v3 hm hs hl hh; cases hh
    | succ n ih =>
      intro H locs ls v0 v1 v3 hm hs hl hh
      unfold mX16_wordOf_l4 at hh
      refine lv_iload_n C.1 C.2.1 dX16_wordOf_4 rfl (lv_at hl 2 rfl) ?_
      refine lv_aload_n C.1 C.2.1 dX16_wordOf_5 rfl (lv_at hl 0 rfl) ?_
      refine r_cT C X hm hs mlX16_129 (in_tbl q_1553 rfl) mtX16_129 hh (vv := fun r => some (.int r)) (hp := fun r => h) (fun r hg => c_J0_length_8abf5 l G h _  r hg) rfl rfl (Nat.le_of_ble_eq_true rfl) (Nat.le_of_ble_eq_true rfl) (Nat.le_of_ble_eq_true rfl) hl.1 dX16_wordOf_6 (fun r1 H locs hgr1 hh hm hs => ?_)
      refine W.eq (g2 := F0 m 9 ls [.int r1, .int v3]) rfl ?_
      refine lv_icmp_ge (tgt := 36) C.1 C.2.1 dX16_wordOf_9 (by decide) (fun c3 => ?_) (fun c3 => ?_)
      · rw [if_pos c3] at hh
        refine lv_lload_n C.1 C.2.1 dX16_wordOf_36 rfl (lv_at hl 1 rfl) ?_
        exact r_lretP hQ C hr hm hs hh dX16_wordOf_37
      · rw [if_neg c3] at hh
        refine lv_ldc2 (v := 32) C.1 C.2.1 C.2.2.2.1 (C.2.2.2.2.1 _ (in_tbl q_1537 rfl)) dX16_wordOf_12 ?_
        refine lv_lload_n C.1 C.2.1 dX16_wordOf_15 rfl (lv_at hl 1 rfl) ?_
        refine lv_lmul C.1 C.2.1 dX16_wordOf_16 ?_
        refine lv_aload_n C.1 C.2.1 dX16_wordOf_17 rfl (lv_at hl 0 rfl) ?_
        refine lv_iload_n C.1 C.2.1 dX16_wordOf_18 rfl (lv_at hl 2 rfl) ?_
        refine r_cT C X hm hs mlX16_137 (in_tbl q_1563 rfl) mtX16_137 hh (vv := fun r => some (.int r)) (hp := fun r => h) (fun r hg => c_J0_charAt_5068e l G h _ _ r hg) rfl rfl (Nat.le_of_ble_eq_true rfl) (Nat.le_of_ble_eq_true rfl) (Nat.le_of_ble_eq_true rfl) hl.1 dX16_wordOf_19 (fun r2 H locs hgr2 hh hm hs => ?_)
        refine W.eq (g2 := F0 m 22 ls [.int r2, .long (32 * v1)]) rfl ?_
        refine lv_bipush (v := 97) C.1 C.2.1 dX16_wordOf_22 (by decide) ?_
        refine lv_isub C.1 C.2.1 dX16_wordOf_24 ?_
        refine lv_iconst (v := 1) C.1 C.2.1 dX16_wordOf_25 (by decide) ?_
        refine lv_iadd C.1 C.2.1 dX16_wordOf_26 ?_
        refine lv_i2l (v := ((r2 - 97) + 1).toInt64) C.1 C.2.1 dX16_wordOf_27 rfl ?_
        refine lv_ladd C.1 C.2.1 dX16_wordOf_28 ?_
        refine lv_lstore_n (i := 1) (lv' := [(1, .long ((32 * v1) + ((r2 - 97) + 1).toInt64)), (0, .ref (G.2.2.2.2.1 v0)), (3, .int v3)]) C.1 C.2.1 dX16_wordOf_29 rfl hl (by decide) rfl (fun ls hl => ?_)
        refine lv_iinc (v := (v3 + 1)) (lv' := [(3, .int (v3 + 1)), (1, .long ((32 * v1) + ((r2 - 97) + 1).toInt64)), (0, .ref (G.2.2.2.2.1 v0))]) C.1 C.2.1 dX16_wordOf_30 hl (k := 2) rfl rfl (by decide) rfl (fun ls hl => ?_)
        refine lv_goto (tgt := 4) C.1 C.2.1 dX16_wordOf_33 (by decide) ?_
        exact ih _ _ _ _ _ _  hm hs (lv_sub hl [2, 1, 0] rfl) hh
  unfold mX16_wordOf at hh
  refine lv_lconst (v := 0) C.1 C.2.1 dX16_wordOf_0 (by decide) ?_
  refine lv_lstore_n (i := 1) (lv' := [(1, .long 0), (0, .ref (G.2.2.2.2.1 a0))]) C.1 C.2.1 dX16_wordOf_1 rfl hl (by decide) rfl (fun ls hl => ?_)
  refine lv_iconst (v := 0) C.1 C.2.1 dX16_wordOf_2 (by decide) ?_
  refine lv_istore_n (i := 3) (lv' := [(3, .int 0), (1, .long 0), (0, .ref (G.2.2.2.2.1 a0))]) C.1 C.2.1 dX16_wordOf_3 rfl hl (by decide) rfl (fun ls hl => ?_)
  exact B4 FUEL _ _ _ _ _ _  hm hs (lv_sub hl [2, 1, 0] rfl) hh

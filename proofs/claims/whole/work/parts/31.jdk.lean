def mJ6_bitCount_0f7a4 (h : MHp) (a0 : Int32) : Option (Int32) := (some (a0 - ((a0.toUInt32 >>> ((1 : Int32).toUInt32 &&& Int32.toUInt32 31)).toInt32 &&& 1431655765))).bind fun y1 => (some ((y1 &&& 858993459) + ((y1.toUInt32 >>> ((2 : Int32).toUInt32 &&& Int32.toUInt32 31)).toInt32 &&& 858993459))).bind fun y2 => (some ((y2 + (y2.toUInt32 >>> ((4 : Int32).toUInt32 &&& Int32.toUInt32 31)).toInt32) &&& 252645135)).bind fun y3 => (some (y3 + (y3.toUInt32 >>> ((8 : Int32).toUInt32 &&& Int32.toUInt32 31)).toInt32)).bind fun y4 => (some (y4 + (y4.toUInt32 >>> ((16 : Int32).toUInt32 &&& Int32.toUInt32 31)).toInt32)).bind fun y5 => some (y5 &&& 63)
set_option maxRecDepth 100000 in
set_option maxHeartbeats 4000000 in
theorem c_J6_bitCount_0f7a4 (l : Launch) (G : Env0) (h : MHp) (a0 : Int32) (res : Int32) (hh : mJ6_bitCount_0f7a4 h a0 = some res) : MG l yJ6_bitCount_0f7a4 cJ6_bitCount_0f7a4 1 (some .int) 0 0 0 0 G h [.int a0] (some (.int res)) (h) := by
  refine MG_of (own := RJ6) (plainFor_of_name (by decide)) rfl (Nat.le_of_ble_eq_true rfl) ?_
  intro p e s m args below meth c Q ls hQ C X hin hm hs hl hr
  have hl : lv_has ls 1 [(0, .int a0)] := hl
  unfold mJ6_bitCount_0f7a4 at hh
  refine lv_iload_n C.1 C.2.1 dJ6_bitCount_0f7a4_0 rfl (lv_at hl 0 rfl) ?_
  refine lv_iload_n C.1 C.2.1 dJ6_bitCount_0f7a4_1 rfl (lv_at hl 0 rfl) ?_
  refine lv_iconst (v := 1) C.1 C.2.1 dJ6_bitCount_0f7a4_2 (by decide) ?_
  refine lv_iushr (v := (a0.toUInt32 >>> ((1 : Int32).toUInt32 &&& Int32.toUInt32 31)).toInt32) C.1 C.2.1 dJ6_bitCount_0f7a4_3 rfl ?_
  refine lv_ldcw (v := 1431655765) C.1 C.2.1 C.2.2.2.1 (C.2.2.2.2.1 _ (in_tbl q_763 rfl)) dJ6_bitCount_0f7a4_4 ?_
  refine lv_iand C.1 C.2.1 dJ6_bitCount_0f7a4_7 ?_
  refine lv_isub C.1 C.2.1 dJ6_bitCount_0f7a4_8 ?_
  refine r_nmI hh (fun y1 _ hh => ?_)
  refine lv_istore_n (i := 0) (lv' := [(0, .int y1)]) C.1 C.2.1 dJ6_bitCount_0f7a4_9 rfl hl (by decide) rfl (fun ls hl => ?_)
  refine lv_iload_n C.1 C.2.1 dJ6_bitCount_0f7a4_10 rfl (lv_at hl 0 rfl) ?_
  refine lv_ldcw (v := 858993459) C.1 C.2.1 C.2.2.2.1 (C.2.2.2.2.1 _ (in_tbl q_764 rfl)) dJ6_bitCount_0f7a4_11 ?_
  refine lv_iand C.1 C.2.1 dJ6_bitCount_0f7a4_14 ?_
  refine lv_iload_n C.1 C.2.1 dJ6_bitCount_0f7a4_15 rfl (lv_at hl 0 rfl) ?_
  refine lv_iconst (v := 2) C.1 C.2.1 dJ6_bitCount_0f7a4_16 (by decide) ?_
  refine lv_iushr (v := (y1.toUInt32 >>> ((2 : Int32).toUInt32 &&& Int32.toUInt32 31)).toInt32) C.1 C.2.1 dJ6_bitCount_0f7a4_17 rfl ?_
  refine lv_ldcw (v := 858993459) C.1 C.2.1 C.2.2.2.1 (C.2.2.2.2.1 _ (in_tbl q_764 rfl)) dJ6_bitCount_0f7a4_18 ?_
  refine lv_iand C.1 C.2.1 dJ6_bitCount_0f7a4_21 ?_
  refine lv_iadd C.1 C.2.1 dJ6_bitCount_0f7a4_22 ?_
  refine r_nmI hh (fun y2 _ hh => ?_)
  refine lv_istore_n (i := 0) (lv' := [(0, .int y2)]) C.1 C.2.1 dJ6_bitCount_0f7a4_23 rfl hl (by decide) rfl (fun ls hl => ?_)
  refine lv_iload_n C.1 C.2.1 dJ6_bitCount_0f7a4_24 rfl (lv_at hl 0 rfl) ?_
  refine lv_iload_n C.1 C.2.1 dJ6_bitCount_0f7a4_25 rfl (lv_at hl 0 rfl) ?_
  refine lv_iconst (v := 4) C.1 C.2.1 dJ6_bitCount_0f7a4_26 (by decide) ?_
  refine lv_iushr (v := (y2.toUInt32 >>> ((4 : Int32).toUInt32 &&& Int32.toUInt32 31)).toInt32) C.1 C.2.1 dJ6_bitCount_0f7a4_27 rfl ?_
  refine lv_iadd C.1 C.2.1 dJ6_bitCount_0f7a4_28 ?_
  refine lv_ldcw (v := 252645135) C.1 C.2.1 C.2.2.2.1 (C.2.2.2.2.1 _ (in_tbl q_765 rfl)) dJ6_bitCount_0f7a4_29 ?_
  refine lv_iand C.1 C.2.1 dJ6_bitCount_0f7a4_32 ?_
  refine r_nmI hh (fun y3 _ hh => ?_)
  refine lv_istore_n (i := 0) (lv' := [(0, .int y3)]) C.1 C.2.1 dJ6_bitCount_0f7a4_33 rfl hl (by decide) rfl (fun ls hl => ?_)
  refine lv_iload_n C.1 C.2.1 dJ6_bitCount_0f7a4_34 rfl (lv_at hl 0 rfl) ?_
  refine lv_iload_n C.1 C.2.1 dJ6_bitCount_0f7a4_35 rfl (lv_at hl 0 rfl) ?_
  refine lv_bipush (v := 8) C.1 C.2.1 dJ6_bitCount_0f7a4_36 (by decide) ?_
  refine lv_iushr (v := (y3.toUInt32 >>> ((8 : Int32).toUInt32 &&& Int32.toUInt32 31)).toInt32) C.1 C.2.1 dJ6_bitCount_0f7a4_38 rfl ?_
  refine lv_iadd C.1 C.2.1 dJ6_bitCount_0f7a4_39 ?_
  refine r_nmI hh (fun y4 _ hh => ?_)
  refine lv_istore_n (i := 0) (lv' := [(0, .int y4)]) C.1 C.2.1 dJ6_bitCount_0f7a4_40 rfl hl (by decide) rfl (fun ls hl => ?_)
  refine lv_iload_n C.1 C.2.1 dJ6_bitCount_0f7a4_41 rfl (lv_at hl 0 rfl) ?_
  refine lv_iload_n C.1 C.2.1 dJ6_bitCount_0f7a4_42 rfl (lv_at hl 0 rfl) ?_
  refine lv_bipush (v := 16) C.1 C.2.1 dJ6_bitCount_0f7a4_43 (by decide) ?_
  refine lv_iushr (v := (y4.toUInt32 >>> ((16 : Int32).toUInt32 &&& Int32.toUInt32 31)).toInt32) C.1 C.2.1 dJ6_bitCount_0f7a4_45 rfl ?_
  refine lv_iadd C.1 C.2.1 dJ6_bitCount_0f7a4_46 ?_
  refine r_nmI hh (fun y5 _ hh => ?_)
  refine lv_istore_n (i := 0) (lv' := [(0, .int y5)]) C.1 C.2.1 dJ6_bitCount_0f7a4_47 rfl hl (by decide) rfl (fun ls hl => ?_)
  refine lv_iload_n C.1 C.2.1 dJ6_bitCount_0f7a4_48 rfl (lv_at hl 0 rfl) ?_
  refine lv_bipush (v := 63) C.1 C.2.1 dJ6_bitCount_0f7a4_49 (by decide) ?_
  refine lv_iand C.1 C.2.1 dJ6_bitCount_0f7a4_51 ?_
  exact r_iretP hQ C hr hm hs hh dJ6_bitCount_0f7a4_52
def mJ13_bitCount_95d88 (h : MHp) (a0 : Int64) : Option (Int32) := (some (a0 - ((a0.toUInt64 >>> ((1 : Int32).toInt64.toUInt64 &&& Int64.toUInt64 63)).toInt64 &&& 6148914691236517205))).bind fun y1 => (some ((y1 &&& 3689348814741910323) + ((y1.toUInt64 >>> ((2 : Int32).toInt64.toUInt64 &&& Int64.toUInt64 63)).toInt64 &&& 3689348814741910323))).bind fun y2 => (some ((y2 + (y2.toUInt64 >>> ((4 : Int32).toInt64.toUInt64 &&& Int64.toUInt64 63)).toInt64) &&& 1085102592571150095)).bind fun y3 => (some (y3 + (y3.toUInt64 >>> ((8 : Int32).toInt64.toUInt64 &&& Int64.toUInt64 63)).toInt64)).bind fun y4 => (some (y4 + (y4.toUInt64 >>> ((16 : Int32).toInt64.toUInt64 &&& Int64.toUInt64 63)).toInt64)).bind fun y5 => (some (y5 + (y5.toUInt64 >>> ((32 : Int32).toInt64.toUInt64 &&& Int64.toUInt64 63)).toInt64)).bind fun y6 => some (y6.toInt32 &&& 127)
set_option maxRecDepth 100000 in
set_option maxHeartbeats 4000000 in
theorem c_J13_bitCount_95d88 (l : Launch) (G : Env0) (h : MHp) (a0 : Int64) (res : Int32) (hh : mJ13_bitCount_95d88 h a0 = some res) : MG l yJ13_bitCount_95d88 cJ13_bitCount_95d88 2 (some .int) 0 0 0 0 G h [.long a0] (some (.int res)) (h) := by
  refine MG_of (own := RJ13) (plainFor_of_name (by decide)) rfl (Nat.le_of_ble_eq_true rfl) ?_
  intro p e s m args below meth c Q ls hQ C X hin hm hs hl hr
  have hl : lv_has ls 2 [(0, .long a0)] := hl
  unfold mJ13_bitCount_95d88 at hh
  refine lv_lload_n C.1 C.2.1 dJ13_bitCount_95d88_0 rfl (lv_at hl 0 rfl) ?_
  refine lv_lload_n C.1 C.2.1 dJ13_bitCount_95d88_1 rfl (lv_at hl 0 rfl) ?_
  refine lv_iconst (v := 1) C.1 C.2.1 dJ13_bitCount_95d88_2 (by decide) ?_
  refine lv_lushr (v := (a0.toUInt64 >>> ((1 : Int32).toInt64.toUInt64 &&& Int64.toUInt64 63)).toInt64) C.1 C.2.1 dJ13_bitCount_95d88_3 rfl ?_
  refine lv_ldc2 (v := 6148914691236517205) C.1 C.2.1 C.2.2.2.1 (C.2.2.2.2.1 _ (in_tbl q_1059 rfl)) dJ13_bitCount_95d88_4 ?_
  refine lv_land C.1 C.2.1 dJ13_bitCount_95d88_7 ?_
  refine lv_lsub C.1 C.2.1 dJ13_bitCount_95d88_8 ?_
  refine r_nmJ hh (fun y1 _ hh => ?_)
  refine lv_lstore_n (i := 0) (lv' := [(0, .long y1)]) C.1 C.2.1 dJ13_bitCount_95d88_9 rfl hl (by decide) rfl (fun ls hl => ?_)
  refine lv_lload_n C.1 C.2.1 dJ13_bitCount_95d88_10 rfl (lv_at hl 0 rfl) ?_
  refine lv_ldc2 (v := 3689348814741910323) C.1 C.2.1 C.2.2.2.1 (C.2.2.2.2.1 _ (in_tbl q_1060 rfl)) dJ13_bitCount_95d88_11 ?_
  refine lv_land C.1 C.2.1 dJ13_bitCount_95d88_14 ?_
  refine lv_lload_n C.1 C.2.1 dJ13_bitCount_95d88_15 rfl (lv_at hl 0 rfl) ?_
  refine lv_iconst (v := 2) C.1 C.2.1 dJ13_bitCount_95d88_16 (by decide) ?_
  refine lv_lushr (v := (y1.toUInt64 >>> ((2 : Int32).toInt64.toUInt64 &&& Int64.toUInt64 63)).toInt64) C.1 C.2.1 dJ13_bitCount_95d88_17 rfl ?_
  refine lv_ldc2 (v := 3689348814741910323) C.1 C.2.1 C.2.2.2.1 (C.2.2.2.2.1 _ (in_tbl q_1060 rfl)) dJ13_bitCount_95d88_18 ?_
  refine lv_land C.1 C.2.1 dJ13_bitCount_95d88_21 ?_
  refine lv_ladd C.1 C.2.1 dJ13_bitCount_95d88_22 ?_
  refine r_nmJ hh (fun y2 _ hh => ?_)
  refine lv_lstore_n (i := 0) (lv' := [(0, .long y2)]) C.1 C.2.1 dJ13_bitCount_95d88_23 rfl hl (by decide) rfl (fun ls hl => ?_)
  refine lv_lload_n C.1 C.2.1 dJ13_bitCount_95d88_24 rfl (lv_at hl 0 rfl) ?_
  refine lv_lload_n C.1 C.2.1 dJ13_bitCount_95d88_25 rfl (lv_at hl 0 rfl) ?_
  refine lv_iconst (v := 4) C.1 C.2.1 dJ13_bitCount_95d88_26 (by decide) ?_
  refine lv_lushr (v := (y2.toUInt64 >>> ((4 : Int32).toInt64.toUInt64 &&& Int64.toUInt64 63)).toInt64) C.1 C.2.1 dJ13_bitCount_95d88_27 rfl ?_
  refine lv_ladd C.1 C.2.1 dJ13_bitCount_95d88_28 ?_
  refine lv_ldc2 (v := 1085102592571150095) C.1 C.2.1 C.2.2.2.1 (C.2.2.2.2.1 _ (in_tbl q_1061 rfl)) dJ13_bitCount_95d88_29 ?_
  refine lv_land C.1 C.2.1 dJ13_bitCount_95d88_32 ?_
  refine r_nmJ hh (fun y3 _ hh => ?_)
  refine lv_lstore_n (i := 0) (lv' := [(0, .long y3)]) C.1 C.2.1 dJ13_bitCount_95d88_33 rfl hl (by decide) rfl (fun ls hl => ?_)
  refine lv_lload_n C.1 C.2.1 dJ13_bitCount_95d88_34 rfl (lv_at hl 0 rfl) ?_
  refine lv_lload_n C.1 C.2.1 dJ13_bitCount_95d88_35 rfl (lv_at hl 0 rfl) ?_
  refine lv_bipush (v := 8) C.1 C.2.1 dJ13_bitCount_95d88_36 (by decide) ?_
  refine lv_lushr (v := (y3.toUInt64 >>> ((8 : Int32).toInt64.toUInt64 &&& Int64.toUInt64 63)).toInt64) C.1 C.2.1 dJ13_bitCount_95d88_38 rfl ?_
  refine lv_ladd C.1 C.2.1 dJ13_bitCount_95d88_39 ?_
  refine r_nmJ hh (fun y4 _ hh => ?_)
  refine lv_lstore_n (i := 0) (lv' := [(0, .long y4)]) C.1 C.2.1 dJ13_bitCount_95d88_40 rfl hl (by decide) rfl (fun ls hl => ?_)
  refine lv_lload_n C.1 C.2.1 dJ13_bitCount_95d88_41 rfl (lv_at hl 0 rfl) ?_
  refine lv_lload_n C.1 C.2.1 dJ13_bitCount_95d88_42 rfl (lv_at hl 0 rfl) ?_
  refine lv_bipush (v := 16) C.1 C.2.1 dJ13_bitCount_95d88_43 (by decide) ?_
  refine lv_lushr (v := (y4.toUInt64 >>> ((16 : Int32).toInt64.toUInt64 &&& Int64.toUInt64 63)).toInt64) C.1 C.2.1 dJ13_bitCount_95d88_45 rfl ?_
  refine lv_ladd C.1 C.2.1 dJ13_bitCount_95d88_46 ?_
  refine r_nmJ hh (fun y5 _ hh => ?_)
  refine lv_lstore_n (i := 0) (lv' := [(0, .long y5)]) C.1 C.2.1 dJ13_bitCount_95d88_47 rfl hl (by decide) rfl (fun ls hl => ?_)
  refine lv_lload_n C.1 C.2.1 dJ13_bitCount_95d88_48 rfl (lv_at hl 0 rfl) ?_
  refine lv_lload_n C.1 C.2.1 dJ13_bitCount_95d88_49 rfl (lv_at hl 0 rfl) ?_
  refine lv_bipush (v := 32) C.1 C.2.1 dJ13_bitCount_95d88_50 (by decide) ?_
  refine lv_lushr (v := (y5.toUInt64 >>> ((32 : Int32).toInt64.toUInt64 &&& Int64.toUInt64 63)).toInt64) C.1 C.2.1 dJ13_bitCount_95d88_52 rfl ?_
  refine lv_ladd C.1 C.2.1 dJ13_bitCount_95d88_53 ?_
  refine r_nmJ hh (fun y6 _ hh => ?_)
  refine lv_lstore_n (i := 0) (lv' := [(0, .long y6)]) C.1 C.2.1 dJ13_bitCount_95d88_54 rfl hl (by decide) rfl (fun ls hl => ?_)
  refine lv_lload_n C.1 C.2.1 dJ13_bitCount_95d88_55 rfl (lv_at hl 0 rfl) ?_
  refine lv_l2i (v := y6.toInt32) C.1 C.2.1 dJ13_bitCount_95d88_56 rfl ?_
  refine lv_bipush (v := 127) C.1 C.2.1 dJ13_bitCount_95d88_57 (by decide) ?_
  refine lv_iand C.1 C.2.1 dJ13_bitCount_95d88_59 ?_
  exact r_iretP hQ C hr hm hs hh dJ13_bitCount_95d88_60
def mJ9_abs_0f7a4 (h : MHp) (a0 : Int32) : Option (Int32) := (if 0 ≤ a0 then some a0 else some (-a0))
set_option maxRecDepth 100000 in
set_option maxHeartbeats 4000000 in
theorem c_J9_abs_0f7a4 (l : Launch) (G : Env0) (h : MHp) (a0 : Int32) (res : Int32) (hh : mJ9_abs_0f7a4 h a0 = some res) : MG l yJ9_abs_0f7a4 cJ9_abs_0f7a4 1 (some .int) 0 0 0 0 G h [.int a0] (some (.int res)) (h) := by
  refine MG_of (own := RJ9) (by decide +kernel) rfl (Nat.le_of_ble_eq_true rfl) ?_
  intro p e s m args below meth c Q ls hQ C X hin hm hs hl hr
  have hl : lv_has ls 1 [(0, .int a0)] := hl
  unfold mJ9_abs_0f7a4 at hh
  refine lv_iload_n C.1 C.2.1 dJ9_abs_0f7a4_0 rfl (lv_at hl 0 rfl) ?_
  refine lv_if_ge (tgt := 9) C.1 C.2.1 dJ9_abs_0f7a4_1 (by decide) (fun c1 => ?_) (fun c1 => ?_)
  · rw [if_pos c1] at hh
    refine lv_iload_n C.1 C.2.1 dJ9_abs_0f7a4_9 rfl (lv_at hl 0 rfl) ?_
    exact r_iretP hQ C hr hm hs hh dJ9_abs_0f7a4_10
  · rw [if_neg c1] at hh
    refine lv_iload_n C.1 C.2.1 dJ9_abs_0f7a4_4 rfl (lv_at hl 0 rfl) ?_
    refine lv_ineg C.1 C.2.1 dJ9_abs_0f7a4_5 ?_
    refine lv_goto (tgt := 10) C.1 C.2.1 dJ9_abs_0f7a4_6 (by decide) ?_
    exact r_iretP hQ C hr hm hs hh dJ9_abs_0f7a4_10
def mJ9_max_f86c9 (h : MHp) (a0 : Int64) (a1 : Int64) : Option (Int64) := (if (lg_cmp a0 a1) < 0 then some a1 else some a0)
set_option maxRecDepth 100000 in
set_option maxHeartbeats 4000000 in
theorem c_J9_max_f86c9 (l : Launch) (G : Env0) (h : MHp) (a0 : Int64) (a1 : Int64) (res : Int64) (hh : mJ9_max_f86c9 h a0 a1 = some res) : MG l yJ9_max_f86c9 cJ9_max_f86c9 4 (some .long) 0 0 0 0 G h [.long a0, .long a1] (some (.long res)) (h) := by
  refine MG_of (own := RJ9) (by decide +kernel) rfl (Nat.le_of_ble_eq_true rfl) ?_
  intro p e s m args below meth c Q ls hQ C X hin hm hs hl hr
  have hl : lv_has ls 4 [(0, .long a0), (2, .long a1)] := hl
  unfold mJ9_max_f86c9 at hh
  refine lv_lload_n C.1 C.2.1 dJ9_max_f86c9_0 rfl (lv_at hl 0 rfl) ?_
  refine lv_lload_n C.1 C.2.1 dJ9_max_f86c9_1 rfl (lv_at hl 1 rfl) ?_
  refine W.lcmp C.1 C.2.1 dJ9_max_f86c9_2 ?_
  refine lv_if_lt (tgt := 10) C.1 C.2.1 dJ9_max_f86c9_3 (by decide) (fun c1 => ?_) (fun c1 => ?_)
  · rw [if_pos c1] at hh
    refine lv_lload_n C.1 C.2.1 dJ9_max_f86c9_10 rfl (lv_at hl 1 rfl) ?_
    exact r_lretP hQ C hr hm hs hh dJ9_max_f86c9_11
  · rw [if_neg c1] at hh
    refine lv_lload_n C.1 C.2.1 dJ9_max_f86c9_6 rfl (lv_at hl 0 rfl) ?_
    refine lv_goto (tgt := 11) C.1 C.2.1 dJ9_max_f86c9_7 (by decide) ?_
    exact r_lretP hQ C hr hm hs hh dJ9_max_f86c9_11
def mJ9_min_7cf53 (h : MHp) (a0 : Int32) (a1 : Int32) : Option (Int32) := (if a1 < a0 then some a1 else some a0)
set_option maxRecDepth 100000 in
set_option maxHeartbeats 4000000 in
theorem c_J9_min_7cf53 (l : Launch) (G : Env0) (h : MHp) (a0 : Int32) (a1 : Int32) (res : Int32) (hh : mJ9_min_7cf53 h a0 a1 = some res) : MG l yJ9_min_7cf53 cJ9_min_7cf53 2 (some .int) 0 0 0 0 G h [.int a0, .int a1] (some (.int res)) (h) := by
  refine MG_of (own := RJ9) (by decide +kernel) rfl (Nat.le_of_ble_eq_true rfl) ?_
  intro p e s m args below meth c Q ls hQ C X hin hm hs hl hr
  have hl : lv_has ls 2 [(0, .int a0), (1, .int a1)] := hl
  unfold mJ9_min_7cf53 at hh
  refine lv_iload_n C.1 C.2.1 dJ9_min_7cf53_0 rfl (lv_at hl 0 rfl) ?_
  refine lv_iload_n C.1 C.2.1 dJ9_min_7cf53_1 rfl (lv_at hl 1 rfl) ?_
  refine lv_icmp_gt (tgt := 9) C.1 C.2.1 dJ9_min_7cf53_2 (by decide) (fun c1 => ?_) (fun c1 => ?_)
  · rw [if_pos c1] at hh
    refine lv_iload_n C.1 C.2.1 dJ9_min_7cf53_9 rfl (lv_at hl 1 rfl) ?_
    exact r_iretP hQ C hr hm hs hh dJ9_min_7cf53_10
  · rw [if_neg c1] at hh
    refine lv_iload_n C.1 C.2.1 dJ9_min_7cf53_5 rfl (lv_at hl 0 rfl) ?_
    refine lv_goto (tgt := 10) C.1 C.2.1 dJ9_min_7cf53_6 (by decide) ?_
    exact r_iretP hQ C hr hm hs hh dJ9_min_7cf53_10
def mJ9_min_f86c9 (h : MHp) (a0 : Int64) (a1 : Int64) : Option (Int64) := (if 0 < (lg_cmp a0 a1) then some a1 else some a0)
set_option maxRecDepth 100000 in
set_option maxHeartbeats 4000000 in
theorem c_J9_min_f86c9 (l : Launch) (G : Env0) (h : MHp) (a0 : Int64) (a1 : Int64) (res : Int64) (hh : mJ9_min_f86c9 h a0 a1 = some res) : MG l yJ9_min_f86c9 cJ9_min_f86c9 4 (some .long) 0 0 0 0 G h [.long a0, .long a1] (some (.long res)) (h) := by
  refine MG_of (own := RJ9) (by decide +kernel) rfl (Nat.le_of_ble_eq_true rfl) ?_
  intro p e s m args below meth c Q ls hQ C X hin hm hs hl hr
  have hl : lv_has ls 4 [(0, .long a0), (2, .long a1)] := hl
  unfold mJ9_min_f86c9 at hh
  refine lv_lload_n C.1 C.2.1 dJ9_min_f86c9_0 rfl (lv_at hl 0 rfl) ?_
  refine lv_lload_n C.1 C.2.1 dJ9_min_f86c9_1 rfl (lv_at hl 1 rfl) ?_
  refine W.lcmp C.1 C.2.1 dJ9_min_f86c9_2 ?_
  refine lv_if_gt (tgt := 10) C.1 C.2.1 dJ9_min_f86c9_3 (by decide) (fun c1 => ?_) (fun c1 => ?_)
  · rw [if_pos c1] at hh
    refine lv_lload_n C.1 C.2.1 dJ9_min_f86c9_10 rfl (lv_at hl 1 rfl) ?_
    exact r_lretP hQ C hr hm hs hh dJ9_min_f86c9_11
  · rw [if_neg c1] at hh
    refine lv_lload_n C.1 C.2.1 dJ9_min_f86c9_6 rfl (lv_at hl 0 rfl) ?_
    refine lv_goto (tgt := 11) C.1 C.2.1 dJ9_min_f86c9_7 (by decide) ?_
    exact r_lretP hQ C hr hm hs hh dJ9_min_f86c9_11
def mJ7_fill_d0a16_l6 : Nat → MHp → Option Nat → Int64 → Int32 → Int32 → Option (MHp)
  | 0, _, _, _, _, _ => none
  | n + 1, h, v0, v1, v3, v4 => (if v4 ≤ v3 then some h else (pAL 21 h v0 v3 v1).bind fun h1 => mJ7_fill_d0a16_l6 n h1 v0 v1 (v3 + 1) v4)
def mJ7_fill_d0a16 (h : MHp) (a0 : Option Nat) (a1 : Int64) : Option (MHp) := (gN 21 h a0).bind fun x3 => mJ7_fill_d0a16_l6 FUEL h a0 a1 0 x3
set_option maxRecDepth 100000 in
set_option maxHeartbeats 4000000 in
theorem c_J7_fill_d0a16 (l : Launch) (G : Env0) (h : MHp) (a0 : Option Nat) (a1 : Int64) (res : MHp) (hh : mJ7_fill_d0a16 h a0 a1 = some res) : MG l yJ7_fill_d0a16 cJ7_fill_d0a16 5 none 0 0 0 0 G h [va_rf a0, .long a1] (none) (res) := by
  refine MG_of (own := RJ7) (plainFor_of_name (by decide)) rfl (by simp [lg_sl, va_cat, vc_i, vc_l, vc_r]) ?_
  intro p e s m args below meth c Q ls hQ C X hin hm hs hl hr
  have hl : lv_has ls 5 [(0, va_rf a0), (1, .long a1)] := by simpa [lv_args, va_cat, vc_i, vc_l, vc_r] using hl
  have hl : lv_has ls 5 [(0, va_rf a0), (1, .long a1)] := hl
  have B6 : ∀ n : Nat, ∀ (h : MHp) (H : Heap) (locs : List Loc) (ls : Array Slot) (v0 : Option Nat) (v1 : Int64) (v3 : Int32) (v4 : Int32) , mHp (gD G) (gC G) (gB G) h H → va_S (fun q => gB G ≤ q) s.heap H locs → lv_has ls 5 [(0, va_rf v0), (1, .long v1), (3, .int v3), (4, .int v4)] → mJ7_fill_d0a16_l6 n h v0 v1 v3 v4 = some res → W p l e ({ frames := 0, cells := 0, slots := 0, locals := 0 }) s m args below meth c H locs 0 0 Q (F0 m 6 ls []) := by
    intro n
    induction n with
    | zero => intro h H locs ls v0 v1 v3 v4 hm hs hl hh; cases hh
    | succ n ih =>
      intro h H locs ls v0 v1 v3 v4 hm hs hl hh
      unfold mJ7_fill_d0a16_l6 at hh
      refine lv_iload_n C.1 C.2.1 dJ7_fill_d0a16_6 rfl (lv_at hl 2 rfl) ?_
      refine lv_iload C.1 C.2.1 dJ7_fill_d0a16_7 (lv_at hl 3 rfl) ?_
      refine lv_icmp_ge (tgt := 22) C.1 C.2.1 dJ7_fill_d0a16_9 (by decide) (fun c2 => ?_) (fun c2 => ?_)
      · rw [if_pos c2] at hh
        exact r_vretW hQ C hr hm hs hh dJ7_fill_d0a16_22
      · rw [if_neg c2] at hh
        refine r_aload_n C.1 C.2.1 dJ7_fill_d0a16_12 rfl (lv_at hl 0 rfl) ?_
        refine lv_iload_n C.1 C.2.1 dJ7_fill_d0a16_13 rfl (lv_at hl 2 rfl) ?_
        refine lv_lload_n C.1 C.2.1 dJ7_fill_d0a16_14 rfl (lv_at hl 1 rfl) ?_
        refine r_last C hm hs dJ7_fill_d0a16_15 hh (fun h1 H locs _ hh hm hs => ?_)
        refine lv_iinc (v := (v3 + 1)) (lv' := [(3, .int (v3 + 1)), (0, va_rf v0), (1, .long v1), (4, .int v4)]) C.1 C.2.1 dJ7_fill_d0a16_16 hl (k := 2) rfl rfl (by decide) rfl (fun ls hl => ?_)
        refine lv_goto (tgt := 6) C.1 C.2.1 dJ7_fill_d0a16_19 (by decide) ?_
        exact ih _ _ _ _ _ _ _ _  hm hs (lv_sub hl [1, 2, 0, 3] rfl) hh
  unfold mJ7_fill_d0a16 at hh
  refine lv_iconst (v := 0) C.1 C.2.1 dJ7_fill_d0a16_0 (by decide) ?_
  refine lv_istore_n (i := 3) (lv' := [(3, .int 0), (0, va_rf a0), (1, .long a1)]) C.1 C.2.1 dJ7_fill_d0a16_1 rfl hl (by decide) rfl (fun ls hl => ?_)
  refine r_aload_n C.1 C.2.1 dJ7_fill_d0a16_2 rfl (lv_at hl 1 rfl) ?_
  refine r_len C hm dJ7_fill_d0a16_3 (kd := 21) (by decide) hh (fun x3 _ hh => ?_)
  refine lv_istore (i := 4) (lv' := [(4, .int x3), (3, .int 0), (0, va_rf a0), (1, .long a1)]) C.1 C.2.1 dJ7_fill_d0a16_4 hl (by decide) rfl (fun ls hl => ?_)
  exact B6 FUEL _ _ _ _ _ _ _ _  hm hs (lv_sub hl [2, 3, 1, 0] rfl) hh
def mJ7_fill_53178_l5 : Nat → MHp → Option Nat → Int32 → Int32 → Int32 → Option (MHp)
  | 0, _, _, _, _, _ => none
  | n + 1, h, v0, v1, v2, v3 => (if v3 ≤ v2 then some h else (pAI 20 h v0 v2 v1).bind fun h1 => mJ7_fill_53178_l5 n h1 v0 v1 (v2 + 1) v3)
def mJ7_fill_53178 (h : MHp) (a0 : Option Nat) (a1 : Int32) : Option (MHp) := (gN 20 h a0).bind fun x3 => mJ7_fill_53178_l5 FUEL h a0 a1 0 x3
set_option maxRecDepth 100000 in
set_option maxHeartbeats 4000000 in
theorem c_J7_fill_53178 (l : Launch) (G : Env0) (h : MHp) (a0 : Option Nat) (a1 : Int32) (res : MHp) (hh : mJ7_fill_53178 h a0 a1 = some res) : MG l yJ7_fill_53178 cJ7_fill_53178 4 none 0 0 0 0 G h [va_rf a0, .int a1] (none) (res) := by
  refine MG_of (own := RJ7) (plainFor_of_name (by decide)) rfl (by simp [lg_sl, va_cat, vc_i, vc_l, vc_r]) ?_
  intro p e s m args below meth c Q ls hQ C X hin hm hs hl hr
  have hl : lv_has ls 4 [(0, va_rf a0), (1, .int a1)] := by simpa [lv_args, va_cat, vc_i, vc_l, vc_r] using hl
  have hl : lv_has ls 4 [(0, va_rf a0), (1, .int a1)] := hl
  have B5 : ∀ n : Nat, ∀ (h : MHp) (H : Heap) (locs : List Loc) (ls : Array Slot) (v0 : Option Nat) (v1 : Int32) (v2 : Int32) (v3 : Int32) , mHp (gD G) (gC G) (gB G) h H → va_S (fun q => gB G ≤ q) s.heap H locs → lv_has ls 4 [(0, va_rf v0), (1, .int v1), (2, .int v2), (3, .int v3)] → mJ7_fill_53178_l5 n h v0 v1 v2 v3 = some res → W p l e ({ frames := 0, cells := 0, slots := 0, locals := 0 }) s m args below meth c H locs 0 0 Q (F0 m 5 ls []) := by
    intro n
    induction n with
    | zero => intro h H locs ls v0 v1 v2 v3 hm hs hl hh; cases hh
    | succ n ih =>
      intro h H locs ls v0 v1 v2 v3 hm hs hl hh
      unfold mJ7_fill_53178_l5 at hh
      refine lv_iload_n C.1 C.2.1 dJ7_fill_53178_5 rfl (lv_at hl 2 rfl) ?_
      refine lv_iload_n C.1 C.2.1 dJ7_fill_53178_6 rfl (lv_at hl 3 rfl) ?_
      refine lv_icmp_ge (tgt := 20) C.1 C.2.1 dJ7_fill_53178_7 (by decide) (fun c2 => ?_) (fun c2 => ?_)
      · rw [if_pos c2] at hh
        exact r_vretW hQ C hr hm hs hh dJ7_fill_53178_20
      · rw [if_neg c2] at hh
        refine r_aload_n C.1 C.2.1 dJ7_fill_53178_10 rfl (lv_at hl 0 rfl) ?_
        refine lv_iload_n C.1 C.2.1 dJ7_fill_53178_11 rfl (lv_at hl 2 rfl) ?_
        refine lv_iload_n C.1 C.2.1 dJ7_fill_53178_12 rfl (lv_at hl 1 rfl) ?_
        refine r_ast C hm hs dJ7_fill_53178_13 hh (fun h1 H locs _ hh hm hs => ?_)
        refine lv_iinc (v := (v2 + 1)) (lv' := [(2, .int (v2 + 1)), (0, va_rf v0), (1, .int v1), (3, .int v3)]) C.1 C.2.1 dJ7_fill_53178_14 hl (k := 2) rfl rfl (by decide) rfl (fun ls hl => ?_)
        refine lv_goto (tgt := 5) C.1 C.2.1 dJ7_fill_53178_17 (by decide) ?_
        exact ih _ _ _ _ _ _ _ _  hm hs (lv_sub hl [1, 2, 0, 3] rfl) hh
  unfold mJ7_fill_53178 at hh
  refine lv_iconst (v := 0) C.1 C.2.1 dJ7_fill_53178_0 (by decide) ?_
  refine lv_istore_n (i := 2) (lv' := [(2, .int 0), (0, va_rf a0), (1, .int a1)]) C.1 C.2.1 dJ7_fill_53178_1 rfl hl (by decide) rfl (fun ls hl => ?_)
  refine r_aload_n C.1 C.2.1 dJ7_fill_53178_2 rfl (lv_at hl 1 rfl) ?_
  refine r_len C hm dJ7_fill_53178_3 (kd := 20) (by decide) hh (fun x3 _ hh => ?_)
  refine lv_istore_n (i := 3) (lv' := [(3, .int x3), (2, .int 0), (0, va_rf a0), (1, .int a1)]) C.1 C.2.1 dJ7_fill_53178_4 rfl hl (by decide) rfl (fun ls hl => ?_)
  exact B5 FUEL _ _ _ _ _ _ _ _  hm hs (lv_sub hl [2, 3, 1, 0] rfl) hh
def mX11_valueIn (h : MHp) (a0 : Option Nat) (a1 : Int32) : Option (Int32) := (if a1 < 0 then some (-1) else (gN 20 h a0).bind fun x1 => (if x1 ≤ a1 then some (-1) else (gAI 20 h a0 a1).bind fun x2 => some x2))
set_option maxRecDepth 100000 in
set_option maxHeartbeats 4000000 in
theorem c_X11_valueIn (l : Launch) (G : Env0) (h : MHp) (a0 : Option Nat) (a1 : Int32) (res : Int32) (hh : mX11_valueIn h a0 a1 = some res) : MG l yX11_valueIn cX11_valueIn 2 (some .int) 0 0 0 0 G h [va_rf a0, .int a1] (some (.int res)) (h) := by
  refine MG_of (own := RX11) (plainFor_of_name (by decide)) rfl (by simp [lg_sl, va_cat, vc_i, vc_l, vc_r]) ?_
  intro p e s m args below meth c Q ls hQ C X hin hm hs hl hr
  have hl : lv_has ls 2 [(0, va_rf a0), (1, .int a1)] := by simpa [lv_args, va_cat, vc_i, vc_l, vc_r] using hl
  have hl : lv_has ls 2 [(0, va_rf a0), (1, .int a1)] := hl
  unfold mX11_valueIn at hh
  refine lv_iload_n C.1 C.2.1 dX11_valueIn_0 rfl (lv_at hl 1 rfl) ?_
  refine lv_if_lt (tgt := 16) C.1 C.2.1 dX11_valueIn_1 (by decide) (fun c4 => ?_) (fun c4 => ?_)
  · rw [if_pos c4] at hh
    refine lv_iconst (v := (-1)) C.1 C.2.1 dX11_valueIn_16 (by decide) ?_
    exact r_iretP hQ C hr hm hs hh dX11_valueIn_17
  · rw [if_neg c4] at hh
    refine lv_iload_n C.1 C.2.1 dX11_valueIn_4 rfl (lv_at hl 1 rfl) ?_
    refine r_aload_n C.1 C.2.1 dX11_valueIn_5 rfl (lv_at hl 0 rfl) ?_
    refine r_len C hm dX11_valueIn_6 (kd := 20) (by decide) hh (fun x1 _ hh => ?_)
    refine lv_icmp_ge (tgt := 16) C.1 C.2.1 dX11_valueIn_7 (by decide) (fun c3 => ?_) (fun c3 => ?_)
    · rw [if_pos c3] at hh
      refine lv_iconst (v := (-1)) C.1 C.2.1 dX11_valueIn_16 (by decide) ?_
      exact r_iretP hQ C hr hm hs hh dX11_valueIn_17
    · rw [if_neg c3] at hh
      refine r_aload_n C.1 C.2.1 dX11_valueIn_10 rfl (lv_at hl 0 rfl) ?_
      refine lv_iload_n C.1 C.2.1 dX11_valueIn_11 rfl (lv_at hl 1 rfl) ?_
      refine r_ald C hm dX11_valueIn_12 hh (fun x2 _ hh => ?_)
      refine lv_goto (tgt := 17) C.1 C.2.1 dX11_valueIn_13 (by decide) ?_
      exact r_iretP hQ C hr hm hs hh dX11_valueIn_17
def mX11_isWithin (h : MHp) (a0 : Int32) (a1 : Int32) (a2 : Int32) : Option (Int32) := (if a0 < a1 then some 0 else (if a2 < a0 then some 0 else some 1))
set_option maxRecDepth 100000 in
set_option maxHeartbeats 4000000 in
theorem c_X11_isWithin (l : Launch) (G : Env0) (h : MHp) (a0 : Int32) (a1 : Int32) (a2 : Int32) (res : Int32) (hh : mX11_isWithin h a0 a1 a2 = some res) : MG l yX11_isWithin cX11_isWithin 3 (some .boolean) 0 0 0 0 G h [.int a0, .int a1, .int a2] (some (.int res)) (h) := by
  refine MG_of (own := RX11) (plainFor_of_name (by decide)) rfl (Nat.le_of_ble_eq_true rfl) ?_
  intro p e s m args below meth c Q ls hQ C X hin hm hs hl hr
  have hl : lv_has ls 3 [(0, .int a0), (1, .int a1), (2, .int a2)] := hl
  unfold mX11_isWithin at hh
  refine lv_iload_n C.1 C.2.1 dX11_isWithin_0 rfl (lv_at hl 0 rfl) ?_
  refine lv_iload_n C.1 C.2.1 dX11_isWithin_1 rfl (lv_at hl 1 rfl) ?_
  refine lv_icmp_lt (tgt := 14) C.1 C.2.1 dX11_isWithin_2 (by decide) (fun c2 => ?_) (fun c2 => ?_)
  · rw [if_pos c2] at hh
    refine lv_iconst (v := 0) C.1 C.2.1 dX11_isWithin_14 (by decide) ?_
    exact r_bretP hQ C hr hm hs (by decide) hh dX11_isWithin_15
  · rw [if_neg c2] at hh
    refine lv_iload_n C.1 C.2.1 dX11_isWithin_5 rfl (lv_at hl 0 rfl) ?_
    refine lv_iload_n C.1 C.2.1 dX11_isWithin_6 rfl (lv_at hl 2 rfl) ?_
    refine lv_icmp_gt (tgt := 14) C.1 C.2.1 dX11_isWithin_7 (by decide) (fun c1 => ?_) (fun c1 => ?_)
    · rw [if_pos c1] at hh
      refine lv_iconst (v := 0) C.1 C.2.1 dX11_isWithin_14 (by decide) ?_
      exact r_bretP hQ C hr hm hs (by decide) hh dX11_isWithin_15
    · rw [if_neg c1] at hh
      refine lv_iconst (v := 1) C.1 C.2.1 dX11_isWithin_10 (by decide) ?_
      refine lv_goto (tgt := 15) C.1 C.2.1 dX11_isWithin_11 (by decide) ?_
      exact r_bretP hQ C hr hm hs (by decide) hh dX11_isWithin_15
def mX11_isLeftOut (h : MHp) (a0 : Int32) (a1 : Int64) : Option (Int32) := (if (lg_cmp ((a1.toUInt64 >>> (a0.toInt64.toUInt64 &&& Int64.toUInt64 63)).toInt64 &&& 1) 0) = 0 then some 0 else some 1)
set_option maxRecDepth 100000 in
set_option maxHeartbeats 4000000 in
theorem c_X11_isLeftOut (l : Launch) (G : Env0) (h : MHp) (a0 : Int32) (a1 : Int64) (res : Int32) (hh : mX11_isLeftOut h a0 a1 = some res) : MG l yX11_isLeftOut cX11_isLeftOut 3 (some .boolean) 0 0 0 0 G h [.int a0, .long a1] (some (.int res)) (h) := by
  refine MG_of (own := RX11) (plainFor_of_name (by decide)) rfl (Nat.le_of_ble_eq_true rfl) ?_
  intro p e s m args below meth c Q ls hQ C X hin hm hs hl hr
  have hl : lv_has ls 3 [(0, .int a0), (1, .long a1)] := hl
  unfold mX11_isLeftOut at hh
  refine lv_lload_n C.1 C.2.1 dX11_isLeftOut_0 rfl (lv_at hl 1 rfl) ?_
  refine lv_iload_n C.1 C.2.1 dX11_isLeftOut_1 rfl (lv_at hl 0 rfl) ?_
  refine lv_lushr (v := (a1.toUInt64 >>> (a0.toInt64.toUInt64 &&& Int64.toUInt64 63)).toInt64) C.1 C.2.1 dX11_isLeftOut_2 rfl ?_
  refine lv_lconst (v := 1) C.1 C.2.1 dX11_isLeftOut_3 (by decide) ?_
  refine lv_land C.1 C.2.1 dX11_isLeftOut_4 ?_
  refine lv_lconst (v := 0) C.1 C.2.1 dX11_isLeftOut_5 (by decide) ?_
  refine W.lcmp C.1 C.2.1 dX11_isLeftOut_6 ?_
  refine lv_if_eq (tgt := 14) C.1 C.2.1 dX11_isLeftOut_7 (by decide) (fun c1 => ?_) (fun c1 => ?_)
  · rw [if_pos c1] at hh
    refine lv_iconst (v := 0) C.1 C.2.1 dX11_isLeftOut_14 (by decide) ?_
    exact r_bretP hQ C hr hm hs (by decide) hh dX11_isLeftOut_15
  · rw [if_neg c1] at hh
    refine lv_iconst (v := 1) C.1 C.2.1 dX11_isLeftOut_10 (by decide) ?_
    refine lv_goto (tgt := 15) C.1 C.2.1 dX11_isLeftOut_11 (by decide) ?_
    exact r_bretP hQ C hr hm hs (by decide) hh dX11_isLeftOut_15

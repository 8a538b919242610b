def mX11_init_l72 : Nat → MHp → Nat → Int32 → Option (MHp)
  | 0, _, _, _ => none
  | n + 1, h, a0, v1 => (gR 12 3 h (some a0)).bind fun x1 => (gN 24 h x1).bind fun x2 => (if x2 ≤ v1 then (some (nA h 20 6)).bind fun h3 => (pR 12 4 h3 (some a0) (some (hS h))).bind fun h4 => (some (nAS 0 h4)).bind fun h5 => (pR 12 5 h5 (some a0) (some (hS h4))).bind fun h6 => (some (nO h6 6 8)).bind fun h7 => (gR 12 2 h7 (some a0)).bind fun x8 => (mX5_init h7 (hS h6) x8).bind fun r9 => (pR 12 6 r9 (some a0) (some (hS h6))).bind fun h11 => (some (nO h11 3 2)).bind fun h12 => (gR 12 2 h12 (some a0)).bind fun x13 => (mX2_init h12 (hS h11) x13).bind fun r14 => (pR 12 7 r14 (some a0) (some (hS h11))).bind fun h16 => (some (nO h16 1 7)).bind fun h17 => (gR 12 7 h17 (some a0)).bind fun x18 => (mX0_init h17 (hS h16) x18).bind fun r19 => (pR 12 8 r19 (some a0) (some (hS h16))).bind fun h21 => (some (nO h21 7 6)).bind fun h22 => (gR 12 7 h22 (some a0)).bind fun x23 => (mX6_init h22 (hS h21) x23).bind fun r24 => (pR 12 9 r24 (some a0) (some (hS h21))).bind fun h26 => (some (nO h26 4 8)).bind fun h27 => (gR 12 7 h27 (some a0)).bind fun x28 => (mX3_init h27 (hS h26) x28).bind fun r29 => (pR 12 10 r29 (some a0) (some (hS h26))).bind fun h31 => (some (nO h31 5 3)).bind fun h32 => (mX4_init h32 (hS h31)).bind fun r33 => (pR 12 11 r33 (some a0) (some (hS h31))).bind fun h35 => some h35 else (gR 12 3 h (some a0)).bind fun x36 => (some (nO h 8 8)).bind fun h37 => (mX7_init h37 (hS h)).bind fun r38 => (pAR 24 8 r38 x36 v1 (some (hS h))).bind fun h40 => mX11_init_l72 n h40 a0 (v1 + 1))
def mX11_init (h : MHp) (a0 : Nat) : Option (MHp) := (some (nA h 22 500)).bind fun h42 => (pR 12 0 h42 (some a0) (some (hS h))).bind fun h43 => (some (nO h43 2 7)).bind fun h44 => (mX1_init h44 (hS h43)).bind fun r45 => (pR 12 12 r45 (some a0) (some (hS h43))).bind fun h47 => (some (nO h47 9 9)).bind fun h48 => (gR 12 0 h48 (some a0)).bind fun x49 => (gR 12 12 h48 (some a0)).bind fun x50 => (mX8_init h48 (hS h47) x49 x50).bind fun r51 => (pR 12 1 r51 (some a0) (some (hS h47))).bind fun h53 => (some (nO h53 10 12)).bind fun h54 => (some (nO h54 2 7)).bind fun h55 => (mX1_init h55 (hS h54)).bind fun r56 => (mX9_init r56 (hS h53) (some (hS h54))).bind fun r58 => (pR 12 2 r58 (some a0) (some (hS h53))).bind fun h60 => (some (nA h60 24 9)).bind fun h61 => (pR 12 3 h61 (some a0) (some (hS h60))).bind fun h62 => mX11_init_l72 10 h62 a0 0
set_option maxRecDepth 100000 in
set_option maxHeartbeats 4000000 in
theorem c_X11_init (l : Launch) (G : Env0) (h : MHp) (a0 : Nat) (res : MHp) (hh : mX11_init h a0 = some res) : MG l yX11_init cX11_init 2 none 3 53 222 7641 G h [.ref a0] (none) (res) := by
  refine MG_of (own := RX11) (plainFor_of_name (by decide)) rfl (Nat.le_of_ble_eq_true rfl) ?_
  intro p e s m args below meth c Q ls hQ C X hin hm hs hl hr
  have hl : lv_has ls 2 [(0, va_rf (some a0))] := hl
  have B72 : ∀ n : Nat, n ≤ 10 → ∀ (h : MHp) (H : Heap) (locs : List Loc) (ls : Array Slot) (a0 : Nat) (v1 : Int32) , mHp (gD G) (gC G) (gB G) h H → va_S (fun q => gB G ≤ q) s.heap H locs → lv_has ls 2 [(0, va_rf (some a0)), (1, .int v1)] → mX11_init_l72 n h a0 v1 = some res → W p l e ({ frames := 3, cells := 222, slots := 7641, locals := 53 }) s m args below meth c H locs ((10 - n) * 7 + 127) ((10 - n) * 249 + 4496) Q (F0 m 72 ls []) := by
    intro n
    induction n with
    | zero => intro hn h H locs ls a0 v1 hm hs hl hh; cases hh
    | succ n ih =>
      intro hn h H locs ls a0 v1 hm hs hl hh
      unfold mX11_init_l72 at hh
      refine lv_iload_n C.1 C.2.1 dX11_init_72 rfl (lv_at hl 1 rfl) ?_
      refine r_aload_n C.1 C.2.1 dX11_init_73 rfl (lv_at hl 0 rfl) ?_
      refine r_getR C hm flX11_40 dX11_init_74 hh (fun x1 _ hh => ?_)
      refine r_len C hm dX11_init_77 (kd := 24) (by decide) hh (fun x2 _ hh => ?_)
      refine lv_icmp_ge (tgt := 100) C.1 C.2.1 dX11_init_78 (by decide) (fun c41 => ?_) (fun c41 => ?_)
      · rw [if_pos c41] at hh
        refine r_aload_n C.1 C.2.1 dX11_init_100 rfl (lv_at hl 0 rfl) ?_
        refine lv_bipush (v := 6) C.1 C.2.1 dX11_init_101 (by decide) ?_
        refine r_newaG C hm hs (kd := 20) (w := 4) (by decide) aw20 dX11_init_103 (N := 6) (by decide) (by decide) (by decide) hh (show _ ≤ _ by (try simp only); omega) (show _ ≤ _ by (try simp only); omega) (fun h3 H hh hm hs => ?_)
        refine r_putR C hm hs flX11_45 (Or.inr ⟨ffX11_45, hin rfl⟩) dX11_init_105 hh (fun h4 H locs _ hh hm hs => ?_)
        refine r_aload_n C.1 C.2.1 dX11_init_108 rfl (lv_at hl 0 rfl) ?_
        refine r_gets C X hs (k := 0) (by decide) (in_tbl q_243 rfl) dX11_init_109 ?_
        refine r_cloneS C X hm hs (k := 0) (by decide) clw hl.1 dX11_init_112 (Nat.le_of_ble_eq_true rfl) (by simp [va_cat, vc_i, vc_l, vc_r]) ((show _ ≤ _ by (try simp only); omega)) ((show _ ≤ _ by (try simp only); omega)) hh (fun h5 H hh hm hs eC => ?_)
        refine r_castI C hm (in_tbl q_251 rfl) dX11_init_115 (by rw [eC]; exact va_up_self _ _ _) ?_
        refine r_putR C hm hs flX11_57 (Or.inr ⟨ffX11_57, hin rfl⟩) dX11_init_118 hh (fun h6 H locs _ hh hm hs => ?_)
        refine r_aload_n C.1 C.2.1 dX11_init_121 rfl (lv_at hl 0 rfl) ?_
        refine r_newG C hm hs nlX11_60 (show _ ≤ _ by (try simp only); omega) (show _ ≤ _ by (try simp only); omega) dX11_init_122 hh (fun h7 H hh hm hs => ?_)
        refine lv_dup C.1 C.2.1 dX11_init_125 (va_cat _) ?_
        refine r_aload_n C.1 C.2.1 dX11_init_126 rfl (lv_at hl 0 rfl) ?_
        refine r_getR C hm flX11_34 dX11_init_127 hh (fun x8 _ hh => ?_)
        refine r_cC C X hm hs mlX11_62 mcX11_62 hh (hp := fun r => r) (fun r hg => c_X5_init l G h7 _ _ r hg) rfl rfl (by simp [va_cat, vc_i, vc_l, vc_r]) (Nat.le_of_ble_eq_true rfl) (Nat.le_of_ble_eq_true rfl) ⟨(show _ ≤ _ by (try simp only); omega), (show _ ≤ _ by (try simp only); omega)⟩ hl.1 dX11_init_130 (fun r9 H locs hgr9 hh hm hs => ?_)
        refine r_putR C hm hs flX11_65 (Or.inr ⟨ffX11_65, hin rfl⟩) dX11_init_133 hh (fun h11 H locs _ hh hm hs => ?_)
        refine r_aload_n C.1 C.2.1 dX11_init_136 rfl (lv_at hl 0 rfl) ?_
        refine r_newG C hm hs nlX11_69 (show _ ≤ _ by (try simp only); omega) (show _ ≤ _ by (try simp only); omega) dX11_init_137 hh (fun h12 H hh hm hs => ?_)
        refine lv_dup C.1 C.2.1 dX11_init_140 (va_cat _) ?_
        refine r_aload_n C.1 C.2.1 dX11_init_141 rfl (lv_at hl 0 rfl) ?_
        refine r_getR C hm flX11_34 dX11_init_142 hh (fun x13 _ hh => ?_)
        refine r_cC C X hm hs mlX11_71 mcX11_71 hh (hp := fun r => r) (fun r hg => c_X2_init l G h12 _ _ r hg) rfl rfl (by simp [va_cat, vc_i, vc_l, vc_r]) (Nat.le_of_ble_eq_true rfl) (Nat.le_of_ble_eq_true rfl) ⟨(show _ ≤ _ by (try simp only); omega), (show _ ≤ _ by (try simp only); omega)⟩ hl.1 dX11_init_145 (fun r14 H locs hgr14 hh hm hs => ?_)
        refine r_putR C hm hs flX11_72 (Or.inr ⟨ffX11_72, hin rfl⟩) dX11_init_148 hh (fun h16 H locs _ hh hm hs => ?_)
        refine r_aload_n C.1 C.2.1 dX11_init_151 rfl (lv_at hl 0 rfl) ?_
        refine r_newG C hm hs nlX11_76 (show _ ≤ _ by (try simp only); omega) (show _ ≤ _ by (try simp only); omega) dX11_init_152 hh (fun h17 H hh hm hs => ?_)
        refine lv_dup C.1 C.2.1 dX11_init_155 (va_cat _) ?_
        refine r_aload_n C.1 C.2.1 dX11_init_156 rfl (lv_at hl 0 rfl) ?_
        refine r_getR C hm flX11_72 dX11_init_157 hh (fun x18 _ hh => ?_)
        refine r_cC C X hm hs mlX11_78 mcX11_78 hh (hp := fun r => r) (fun r hg => c_X0_init l G h17 _ _ r hg) rfl rfl (by simp [va_cat, vc_i, vc_l, vc_r]) (Nat.le_of_ble_eq_true rfl) (Nat.le_of_ble_eq_true rfl) ⟨(show _ ≤ _ by (try simp only); omega), (show _ ≤ _ by (try simp only); omega)⟩ hl.1 dX11_init_160 (fun r19 H locs hgr19 hh hm hs => ?_)
        refine r_putR C hm hs flX11_81 (Or.inr ⟨ffX11_81, hin rfl⟩) dX11_init_163 hh (fun h21 H locs _ hh hm hs => ?_)
        refine r_aload_n C.1 C.2.1 dX11_init_166 rfl (lv_at hl 0 rfl) ?_
        refine r_newG C hm hs nlX11_85 (show _ ≤ _ by (try simp only); omega) (show _ ≤ _ by (try simp only); omega) dX11_init_167 hh (fun h22 H hh hm hs => ?_)
        refine lv_dup C.1 C.2.1 dX11_init_170 (va_cat _) ?_
        refine r_aload_n C.1 C.2.1 dX11_init_171 rfl (lv_at hl 0 rfl) ?_
        refine r_getR C hm flX11_72 dX11_init_172 hh (fun x23 _ hh => ?_)
        refine r_cC C X hm hs mlX11_87 mcX11_87 hh (hp := fun r => r) (fun r hg => c_X6_init l G h22 _ _ r hg) rfl rfl (by simp [va_cat, vc_i, vc_l, vc_r]) (Nat.le_of_ble_eq_true rfl) (Nat.le_of_ble_eq_true rfl) ⟨(show _ ≤ _ by (try simp only); omega), (show _ ≤ _ by (try simp only); omega)⟩ hl.1 dX11_init_175 (fun r24 H locs hgr24 hh hm hs => ?_)
        refine r_putR C hm hs flX11_88 (Or.inr ⟨ffX11_88, hin rfl⟩) dX11_init_178 hh (fun h26 H locs _ hh hm hs => ?_)
        refine r_aload_n C.1 C.2.1 dX11_init_181 rfl (lv_at hl 0 rfl) ?_
        refine r_newG C hm hs nlX11_92 (show _ ≤ _ by (try simp only); omega) (show _ ≤ _ by (try simp only); omega) dX11_init_182 hh (fun h27 H hh hm hs => ?_)
        refine lv_dup C.1 C.2.1 dX11_init_185 (va_cat _) ?_
        refine r_aload_n C.1 C.2.1 dX11_init_186 rfl (lv_at hl 0 rfl) ?_
        refine r_getR C hm flX11_72 dX11_init_187 hh (fun x28 _ hh => ?_)
        refine r_cC C X hm hs mlX11_94 mcX11_94 hh (hp := fun r => r) (fun r hg => c_X3_init l G h27 _ _ r hg) rfl rfl (by simp [va_cat, vc_i, vc_l, vc_r]) (Nat.le_of_ble_eq_true rfl) (Nat.le_of_ble_eq_true rfl) ⟨(show _ ≤ _ by (try simp only); omega), (show _ ≤ _ by (try simp only); omega)⟩ hl.1 dX11_init_190 (fun r29 H locs hgr29 hh hm hs => ?_)
        refine r_putR C hm hs flX11_95 (Or.inr ⟨ffX11_95, hin rfl⟩) dX11_init_193 hh (fun h31 H locs _ hh hm hs => ?_)
        refine r_aload_n C.1 C.2.1 dX11_init_196 rfl (lv_at hl 0 rfl) ?_
        refine r_newG C hm hs nlX11_99 (show _ ≤ _ by (try simp only); omega) (show _ ≤ _ by (try simp only); omega) dX11_init_197 hh (fun h32 H hh hm hs => ?_)
        refine lv_dup C.1 C.2.1 dX11_init_200 (va_cat _) ?_
        refine r_cC C X hm hs mlX11_101 mcX11_101 hh (hp := fun r => r) (fun r hg => c_X4_init l G h32 _  r hg) rfl rfl (by simp [va_cat, vc_i, vc_l, vc_r]) (Nat.le_of_ble_eq_true rfl) (Nat.le_of_ble_eq_true rfl) ⟨(show _ ≤ _ by (try simp only); omega), (show _ ≤ _ by (try simp only); omega)⟩ hl.1 dX11_init_201 (fun r33 H locs hgr33 hh hm hs => ?_)
        refine r_putR C hm hs flX11_102 (Or.inr ⟨ffX11_102, hin rfl⟩) dX11_init_204 hh (fun h35 H locs _ hh hm hs => ?_)
        refine W.widen (k := 222) (n := 7641) (by omega) (by omega) ?_
        exact r_vretW hQ C hr hm hs hh dX11_init_207
      · rw [if_neg c41] at hh
        refine r_aload_n C.1 C.2.1 dX11_init_81 rfl (lv_at hl 0 rfl) ?_
        refine r_getR C hm flX11_40 dX11_init_82 hh (fun x36 _ hh => ?_)
        refine lv_iload_n C.1 C.2.1 dX11_init_85 rfl (lv_at hl 1 rfl) ?_
        refine r_newG C hm hs nlX11_38 (show _ ≤ _ by (try simp only); omega) (show _ ≤ _ by (try simp only); omega) dX11_init_86 hh (fun h37 H hh hm hs => ?_)
        refine lv_dup C.1 C.2.1 dX11_init_89 (va_cat _) ?_
        refine r_cC C X hm hs mlX11_44 mcX11_44 hh (hp := fun r => r) (fun r hg => c_X7_init l G h37 _  r hg) rfl rfl (by simp [va_cat, vc_i, vc_l, vc_r]) (Nat.le_of_ble_eq_true rfl) (Nat.le_of_ble_eq_true rfl) ⟨(show _ ≤ _ by (try simp only); omega), (show _ ≤ _ by (try simp only); omega)⟩ hl.1 dX11_init_90 (fun r38 H locs hgr38 hh hm hs => ?_)
        refine r_ast_q C hm hs dX11_init_93 (kd := 24) (kv := 8) (t0 := 4) (by decide) (by decide) rfl rfl hh (fun h40 H locs _ hh hm hs => ?_)
        refine lv_iinc (v := (v1 + 1)) (lv' := [(1, .int (v1 + 1)), (0, va_rf (some a0))]) C.1 C.2.1 dX11_init_94 hl (k := 1) rfl rfl (by decide) (by simp [va_cat, vc_i, vc_l, vc_r]) (fun ls hl => ?_)
        refine lv_goto (tgt := 72) C.1 C.2.1 dX11_init_97 (by decide) ?_
        refine W.widen (k := ((10 - n) * 7 + 127)) (n := ((10 - n) * 249 + 4496)) (by omega) (by omega) ?_
        exact ih (by omega) _ _ _ _ _ _  hm hs (lv_sub hl [1, 0] rfl) hh
  unfold mX11_init at hh
  refine r_aload_n C.1 C.2.1 dX11_init_0 rfl (lv_at hl 0 rfl) ?_
  refine r_objInit C (in_tbl q_36 rfl) (in_tbl q_37 rfl) (in_tbl q_38 rfl) hl.1 dX11_init_1 (Nat.le_of_ble_eq_true rfl) (Nat.le_of_ble_eq_true rfl) ?_
  refine r_aload_n C.1 C.2.1 dX11_init_4 rfl (lv_at hl 0 rfl) ?_
  refine lv_sipush (v := 500) C.1 C.2.1 dX11_init_5 (by decide) ?_
  refine r_newaG C hm hs (kd := 22) (w := 1) (by decide) aw22 dX11_init_8 (N := 500) (by decide) (by decide) (by decide) hh (show _ ≤ _ by (try simp only); omega) (show _ ≤ _ by (try simp only); omega) (fun h42 H hh hm hs => ?_)
  refine r_putR C hm hs flX11_9 (Or.inr ⟨ffX11_9, hin rfl⟩) dX11_init_10 hh (fun h43 H locs _ hh hm hs => ?_)
  refine r_aload_n C.1 C.2.1 dX11_init_13 rfl (lv_at hl 0 rfl) ?_
  refine r_newG C hm hs nlX11_13 (show _ ≤ _ by (try simp only); omega) (show _ ≤ _ by (try simp only); omega) dX11_init_14 hh (fun h44 H hh hm hs => ?_)
  refine lv_dup C.1 C.2.1 dX11_init_17 (va_cat _) ?_
  refine r_cC C X hm hs mlX11_15 mcX11_15 hh (hp := fun r => r) (fun r hg => c_X1_init l G h44 _  r hg) rfl rfl (by simp [va_cat, vc_i, vc_l, vc_r]) (Nat.le_of_ble_eq_true rfl) (Nat.le_of_ble_eq_true rfl) ⟨(show _ ≤ _ by (try simp only); omega), (show _ ≤ _ by (try simp only); omega)⟩ hl.1 dX11_init_18 (fun r45 H locs hgr45 hh hm hs => ?_)
  refine r_putR C hm hs flX11_16 (Or.inl fm_12_12) dX11_init_21 hh (fun h47 H locs _ hh hm hs => ?_)
  refine r_aload_n C.1 C.2.1 dX11_init_24 rfl (lv_at hl 0 rfl) ?_
  refine r_newG C hm hs nlX11_20 (show _ ≤ _ by (try simp only); omega) (show _ ≤ _ by (try simp only); omega) dX11_init_25 hh (fun h48 H hh hm hs => ?_)
  refine lv_dup C.1 C.2.1 dX11_init_28 (va_cat _) ?_
  refine r_aload_n C.1 C.2.1 dX11_init_29 rfl (lv_at hl 0 rfl) ?_
  refine r_getR C hm flX11_9 dX11_init_30 hh (fun x49 _ hh => ?_)
  refine r_aload_n C.1 C.2.1 dX11_init_33 rfl (lv_at hl 0 rfl) ?_
  refine r_getR C hm flX11_16 dX11_init_34 hh (fun x50 _ hh => ?_)
  refine r_cC C X hm hs mlX11_22 mcX11_22 hh (hp := fun r => r) (fun r hg => c_X8_init l G h48 _ _ _ r hg) rfl rfl (by simp [va_cat, vc_i, vc_l, vc_r]) (Nat.le_of_ble_eq_true rfl) (Nat.le_of_ble_eq_true rfl) ⟨(show _ ≤ _ by (try simp only); omega), (show _ ≤ _ by (try simp only); omega)⟩ hl.1 dX11_init_37 (fun r51 H locs hgr51 hh hm hs => ?_)
  refine r_putR C hm hs flX11_25 (Or.inr ⟨ffX11_25, hin rfl⟩) dX11_init_40 hh (fun h53 H locs _ hh hm hs => ?_)
  refine r_aload_n C.1 C.2.1 dX11_init_43 rfl (lv_at hl 0 rfl) ?_
  refine r_newG C hm hs nlX11_29 (show _ ≤ _ by (try simp only); omega) (show _ ≤ _ by (try simp only); omega) dX11_init_44 hh (fun h54 H hh hm hs => ?_)
  refine lv_dup C.1 C.2.1 dX11_init_47 (va_cat _) ?_
  refine r_newG C hm hs nlX11_13 (show _ ≤ _ by (try simp only); omega) (show _ ≤ _ by (try simp only); omega) dX11_init_48 hh (fun h55 H hh hm hs => ?_)
  refine lv_dup C.1 C.2.1 dX11_init_51 (va_cat _) ?_
  refine r_cC C X hm hs mlX11_15 mcX11_15 hh (hp := fun r => r) (fun r hg => c_X1_init l G h55 _  r hg) rfl rfl (by simp [va_cat, vc_i, vc_l, vc_r]) (Nat.le_of_ble_eq_true rfl) (Nat.le_of_ble_eq_true rfl) ⟨(show _ ≤ _ by (try simp only); omega), (show _ ≤ _ by (try simp only); omega)⟩ hl.1 dX11_init_52 (fun r56 H locs hgr56 hh hm hs => ?_)
  refine r_cC C X hm hs mlX11_31 mcX11_31 hh (hp := fun r => r) (fun r hg => c_X9_init l G r56 _ _ r hg) rfl rfl (by simp [va_cat, vc_i, vc_l, vc_r]) (Nat.le_of_ble_eq_true rfl) (Nat.le_of_ble_eq_true rfl) ⟨(show _ ≤ _ by (try simp only); omega), (show _ ≤ _ by (try simp only); omega)⟩ hl.1 dX11_init_55 (fun r58 H locs hgr58 hh hm hs => ?_)
  refine r_putR C hm hs flX11_34 (Or.inr ⟨ffX11_34, hin rfl⟩) dX11_init_58 hh (fun h60 H locs _ hh hm hs => ?_)
  refine r_aload_n C.1 C.2.1 dX11_init_61 rfl (lv_at hl 0 rfl) ?_
  refine lv_bipush (v := 9) C.1 C.2.1 dX11_init_62 (by decide) ?_
  refine r_newqG C hm hs (kd := 24) (t0 := 4) (by decide) rfl X.2.2.1.1 (in_tbl q_203 rfl) dX11_init_64 (N := 9) (by decide) (by decide) (by decide) hh (show _ ≤ _ by (try simp only); omega) (show _ ≤ _ by (try simp only); omega) (fun h61 H hh hm hs => ?_)
  refine r_putR C hm hs flX11_40 (Or.inr ⟨ffX11_40, hin rfl⟩) dX11_init_67 hh (fun h62 H locs _ hh hm hs => ?_)
  refine lv_iconst (v := 0) C.1 C.2.1 dX11_init_70 (by decide) ?_
  refine lv_istore_n (i := 1) (lv' := [(1, .int 0), (0, va_rf (some a0))]) C.1 C.2.1 dX11_init_71 rfl hl (by decide) (by simp [va_cat, vc_i, vc_l, vc_r]) (fun ls hl => ?_)
  refine W.widen (k := ((10 - 10) * 7 + 127)) (n := ((10 - 10) * 249 + 4496)) (by omega) (by omega) ?_
  exact B72 10 (Nat.le_refl _) _ _ _ _ _ _  hm hs (lv_sub hl [1, 0] rfl) hh
def mX11_layOnTape_l3 : Nat → MHp → Nat → Int32 → Int32 → Option (MHp)
  | 0, _, _, _, _ => none
  | n + 1, h, a0, v1, v2 => (if v2 < 0 then some h else (gI 12 13 h (some a0)).bind fun x1 => (gR 12 0 h (some a0)).bind fun x2 => (gN 22 h x2).bind fun x3 => (if x3 ≤ x1 then some h else (gR 12 0 h (some a0)).bind fun x4 => (gI 12 13 h (some a0)).bind fun x5 => (pAI 22 h x4 x5 ((v1 >>> (v2 &&& 31)).toInt8.toInt32).toInt8.toInt32).bind fun h6 => (gI 12 13 h6 (some a0)).bind fun x7 => (pI 12 13 h6 (some a0) (x7 + 1)).bind fun h8 => mX11_layOnTape_l3 n h8 a0 v1 (v2 + (-8))))
def mX11_layOnTape (h : MHp) (a0 : Nat) (a1 : Int32) : Option (MHp) := mX11_layOnTape_l3 FUEL h a0 a1 24
set_option maxRecDepth 100000 in
set_option maxHeartbeats 4000000 in
theorem c_X11_layOnTape (l : Launch) (G : Env0) (h : MHp) (a0 : Nat) (a1 : Int32) (res : MHp) (hh : mX11_layOnTape h a0 a1 = some res) : MG l yX11_layOnTape cX11_layOnTape 3 none 0 0 0 0 G h [.ref a0, .int a1] (none) (res) := by
  refine MG_of (own := RX11) (plainFor_of_name (by decide)) rfl (Nat.le_of_ble_eq_true rfl) ?_
  intro p e s m args below meth c Q ls hQ C X hin hm hs hl hr
  have hl : lv_has ls 3 [(0, va_rf (some a0)), (1, .int a1)] := hl
  have B3 : ∀ n : Nat, ∀ (h : MHp) (H : Heap) (locs : List Loc) (ls : Array Slot) (a0 : Nat) (v1 : Int32) (v2 : Int32) , mHp (gD G) (gC G) (gB G) h H → va_S (fun q => gB G ≤ q) s.heap H locs → lv_has ls 3 [(0, va_rf (some a0)), (1, .int v1), (2, .int v2)] → mX11_layOnTape_l3 n h a0 v1 v2 = some res → W p l e ({ frames := 0, cells := 0, slots := 0, locals := 0 }) s m args below meth c H locs 0 0 Q (F0 m 3 ls []) := by
    intro n
    induction n with
    | zero => intro h H locs ls a0 v1 v2 hm hs hl hh; cases hh
    | succ n ih =>
      intro h H locs ls a0 v1 v2 hm hs hl hh
      unfold mX11_layOnTape_l3 at hh
      refine lv_iload_n C.1 C.2.1 dX11_layOnTape_3 rfl (lv_at hl 2 rfl) ?_
      refine lv_if_lt (tgt := 48) C.1 C.2.1 dX11_layOnTape_4 (by decide) (fun c10 => ?_) (fun c10 => ?_)
      · rw [if_pos c10] at hh
        exact r_vretW hQ C hr hm hs hh dX11_layOnTape_48
      · rw [if_neg c10] at hh
        refine r_aload_n C.1 C.2.1 dX11_layOnTape_7 rfl (lv_at hl 0 rfl) ?_
        refine r_getI C hm flX11_106 dX11_layOnTape_8 hh (fun x1 _ hh => ?_)
        refine r_aload_n C.1 C.2.1 dX11_layOnTape_11 rfl (lv_at hl 0 rfl) ?_
        refine r_getR C hm flX11_9 dX11_layOnTape_12 hh (fun x2 _ hh => ?_)
        refine r_len C hm dX11_layOnTape_15 (kd := 22) (by decide) hh (fun x3 _ hh => ?_)
        refine lv_icmp_ge (tgt := 48) C.1 C.2.1 dX11_layOnTape_16 (by decide) (fun c9 => ?_) (fun c9 => ?_)
        · rw [if_pos c9] at hh
          exact r_vretW hQ C hr hm hs hh dX11_layOnTape_48
        · rw [if_neg c9] at hh
          refine r_aload_n C.1 C.2.1 dX11_layOnTape_19 rfl (lv_at hl 0 rfl) ?_
          refine r_getR C hm flX11_9 dX11_layOnTape_20 hh (fun x4 _ hh => ?_)
          refine r_aload_n C.1 C.2.1 dX11_layOnTape_23 rfl (lv_at hl 0 rfl) ?_
          refine r_getI C hm flX11_106 dX11_layOnTape_24 hh (fun x5 _ hh => ?_)
          refine lv_iload_n C.1 C.2.1 dX11_layOnTape_27 rfl (lv_at hl 1 rfl) ?_
          refine lv_iload_n C.1 C.2.1 dX11_layOnTape_28 rfl (lv_at hl 2 rfl) ?_
          refine lv_ishr C.1 C.2.1 dX11_layOnTape_29 ?_
          refine lv_i2b (v := (v1 >>> (v2 &&& 31)).toInt8.toInt32) C.1 C.2.1 dX11_layOnTape_30 rfl ?_
          refine r_bast C hm hs dX11_layOnTape_31 hh (fun h6 H locs _ hh hm hs => ?_)
          refine r_aload_n C.1 C.2.1 dX11_layOnTape_32 rfl (lv_at hl 0 rfl) ?_
          refine lv_dup C.1 C.2.1 dX11_layOnTape_33 (va_cat _) ?_
          refine r_getI C hm flX11_106 dX11_layOnTape_34 hh (fun x7 _ hh => ?_)
          refine lv_iconst (v := 1) C.1 C.2.1 dX11_layOnTape_37 (by decide) ?_
          refine lv_iadd C.1 C.2.1 dX11_layOnTape_38 ?_
          refine r_putI C hm hs flX11_106 (Or.inl fm_12_13) dX11_layOnTape_39 hh (fun h8 H locs _ hh hm hs => ?_)
          refine lv_iinc (v := (v2 + (-8))) (lv' := [(2, .int (v2 + (-8))), (0, va_rf (some a0)), (1, .int v1)]) C.1 C.2.1 dX11_layOnTape_42 hl (k := 2) rfl rfl (by decide) rfl (fun ls hl => ?_)
          refine lv_goto (tgt := 3) C.1 C.2.1 dX11_layOnTape_45 (by decide) ?_
          exact ih _ _ _ _ _ _ _  hm hs (lv_sub hl [1, 2, 0] rfl) hh
  unfold mX11_layOnTape at hh
  refine lv_bipush (v := 24) C.1 C.2.1 dX11_layOnTape_0 (by decide) ?_
  refine lv_istore_n (i := 2) (lv' := [(2, .int 24), (0, va_rf (some a0)), (1, .int a1)]) C.1 C.2.1 dX11_layOnTape_2 rfl hl (by decide) rfl (fun ls hl => ?_)
  exact B3 FUEL _ _ _ _ _ _ _  hm hs (lv_sub hl [1, 2, 0] rfl) hh
def mX11_feed (h : MHp) (a0 : Nat) (a1 : Int32) (a2 : Int32) (a3 : Int32) (a4 : Int32) (a5 : Int32) : Option (Int32 × MHp) := (gI 12 13 h (some a0)).bind fun x1 => (if x1 ≤ 480 then (rcv 12 h (some a0)).bind fun b3 => (mX11_layOnTape h b3 a1).bind fun r2 => (rcv 12 r2 (some a0)).bind fun b5 => (mX11_layOnTape r2 b5 a2).bind fun r4 => (rcv 12 r4 (some a0)).bind fun b7 => (mX11_layOnTape r4 b7 a3).bind fun r6 => (rcv 12 r6 (some a0)).bind fun b9 => (mX11_layOnTape r6 b9 a4).bind fun r8 => (rcv 12 r8 (some a0)).bind fun b11 => (mX11_layOnTape r8 b11 a5).bind fun r10 => (gI 12 13 r10 (some a0)).bind fun x12 => some (x12, r10) else some ((-1), h))
set_option maxRecDepth 100000 in
set_option maxHeartbeats 4000000 in
theorem c_X11_feed (l : Launch) (G : Env0) (h : MHp) (a0 : Nat) (a1 : Int32) (a2 : Int32) (a3 : Int32) (a4 : Int32) (a5 : Int32) (res : Int32 × MHp) (hh : mX11_feed h a0 a1 a2 a3 a4 a5 = some res) : MG l yX11_feed cX11_feed 6 (some .int) 1 22 0 0 G h [.ref a0, .int a1, .int a2, .int a3, .int a4, .int a5] (some (.int res.1)) (res.2) := by
  refine MG_of (own := RX11) (plainFor_of_name (by decide)) rfl (Nat.le_of_ble_eq_true rfl) ?_
  intro p e s m args below meth c Q ls hQ C X hin hm hs hl hr
  have hl : lv_has ls 6 [(0, va_rf (some a0)), (1, .int a1), (2, .int a2), (3, .int a3), (4, .int a4), (5, .int a5)] := hl
  unfold mX11_feed at hh
  refine r_aload_n C.1 C.2.1 dX11_feed_0 rfl (lv_at hl 0 rfl) ?_
  refine r_getI C hm flX11_106 dX11_feed_1 hh (fun x1 _ hh => ?_)
  refine lv_sipush (v := 480) C.1 C.2.1 dX11_feed_4 (by decide) ?_
  refine lv_icmp_le (tgt := 12) C.1 C.2.1 dX11_feed_7 (by decide) (fun c13 => ?_) (fun c13 => ?_)
  · rw [if_pos c13] at hh
    refine r_aload_n C.1 C.2.1 dX11_feed_12 rfl (lv_at hl 0 rfl) ?_
    refine lv_iload_n C.1 C.2.1 dX11_feed_13 rfl (lv_at hl 1 rfl) ?_
    refine r_cV C X hm hs mlX11_110 mvX11_110 hh (vv := fun r => none) (hp := fun r => r) (fun b r hg => c_X11_layOnTape l G h b _ r hg) rfl rfl (Nat.le_of_ble_eq_true rfl) (Nat.le_of_ble_eq_true rfl) (Nat.le_of_ble_eq_true rfl) hl.1 dX11_feed_14 (fun b3 r2 H locs hgr2 hh hm hs => ?_)
    refine W.eq (g2 := F0 m 17 ls []) rfl ?_
    refine r_aload_n C.1 C.2.1 dX11_feed_17 rfl (lv_at hl 0 rfl) ?_
    refine lv_iload_n C.1 C.2.1 dX11_feed_18 rfl (lv_at hl 2 rfl) ?_
    refine r_cV C X hm hs mlX11_110 mvX11_110 hh (vv := fun r => none) (hp := fun r => r) (fun b r hg => c_X11_layOnTape l G r2 b _ r hg) rfl rfl (Nat.le_of_ble_eq_true rfl) (Nat.le_of_ble_eq_true rfl) (Nat.le_of_ble_eq_true rfl) hl.1 dX11_feed_19 (fun b5 r4 H locs hgr4 hh hm hs => ?_)
    refine W.eq (g2 := F0 m 22 ls []) rfl ?_
    refine r_aload_n C.1 C.2.1 dX11_feed_22 rfl (lv_at hl 0 rfl) ?_
    refine lv_iload_n C.1 C.2.1 dX11_feed_23 rfl (lv_at hl 3 rfl) ?_
    refine r_cV C X hm hs mlX11_110 mvX11_110 hh (vv := fun r => none) (hp := fun r => r) (fun b r hg => c_X11_layOnTape l G r4 b _ r hg) rfl rfl (Nat.le_of_ble_eq_true rfl) (Nat.le_of_ble_eq_true rfl) (Nat.le_of_ble_eq_true rfl) hl.1 dX11_feed_24 (fun b7 r6 H locs hgr6 hh hm hs => ?_)
    refine W.eq (g2 := F0 m 27 ls []) rfl ?_
    refine r_aload_n C.1 C.2.1 dX11_feed_27 rfl (lv_at hl 0 rfl) ?_
    refine lv_iload C.1 C.2.1 dX11_feed_28 (lv_at hl 4 rfl) ?_
    refine r_cV C X hm hs mlX11_110 mvX11_110 hh (vv := fun r => none) (hp := fun r => r) (fun b r hg => c_X11_layOnTape l G r6 b _ r hg) rfl rfl (Nat.le_of_ble_eq_true rfl) (Nat.le_of_ble_eq_true rfl) (Nat.le_of_ble_eq_true rfl) hl.1 dX11_feed_30 (fun b9 r8 H locs hgr8 hh hm hs => ?_)
    refine W.eq (g2 := F0 m 33 ls []) rfl ?_
    refine r_aload_n C.1 C.2.1 dX11_feed_33 rfl (lv_at hl 0 rfl) ?_
    refine lv_iload C.1 C.2.1 dX11_feed_34 (lv_at hl 5 rfl) ?_
    refine r_cV C X hm hs mlX11_110 mvX11_110 hh (vv := fun r => none) (hp := fun r => r) (fun b r hg => c_X11_layOnTape l G r8 b _ r hg) rfl rfl (Nat.le_of_ble_eq_true rfl) (Nat.le_of_ble_eq_true rfl) (Nat.le_of_ble_eq_true rfl) hl.1 dX11_feed_36 (fun b11 r10 H locs hgr10 hh hm hs => ?_)
    refine W.eq (g2 := F0 m 39 ls []) rfl ?_
    refine r_aload_n C.1 C.2.1 dX11_feed_39 rfl (lv_at hl 0 rfl) ?_
    refine r_getI C hm flX11_106 dX11_feed_40 hh (fun x12 _ hh => ?_)
    exact r_iretW hQ C hr hm hs hh dX11_feed_43
  · rw [if_neg c13] at hh
    refine lv_iconst (v := (-1)) C.1 C.2.1 dX11_feed_10 (by decide) ?_
    exact r_iretW hQ C hr hm hs hh dX11_feed_11
def mX11_isOnTape (h : MHp) (a0 : Nat) (a1 : Int32) : Option (Int32) := (if a1 < 0 then some 0 else (gI 12 13 h (some a0)).bind fun x1 => (if x1 < a1 then some 0 else some 1))
set_option maxRecDepth 100000 in
set_option maxHeartbeats 4000000 in
theorem c_X11_isOnTape (l : Launch) (G : Env0) (h : MHp) (a0 : Nat) (a1 : Int32) (res : Int32) (hh : mX11_isOnTape h a0 a1 = some res) : MG l yX11_isOnTape cX11_isOnTape 2 (some .boolean) 0 0 0 0 G h [.ref a0, .int a1] (some (.int res)) (h) := by
  refine MG_of (own := RX11) (plainFor_of_name (by decide)) rfl (Nat.le_of_ble_eq_true rfl) ?_
  intro p e s m args below meth c Q ls hQ C X hin hm hs hl hr
  have hl : lv_has ls 2 [(0, va_rf (some a0)), (1, .int a1)] := hl
  unfold mX11_isOnTape at hh
  refine lv_iload_n C.1 C.2.1 dX11_isOnTape_0 rfl (lv_at hl 1 rfl) ?_
  refine lv_if_lt (tgt := 16) C.1 C.2.1 dX11_isOnTape_1 (by decide) (fun c3 => ?_) (fun c3 => ?_)
  · rw [if_pos c3] at hh
    refine lv_iconst (v := 0) C.1 C.2.1 dX11_isOnTape_16 (by decide) ?_
    exact r_bretP hQ C hr hm hs (by decide) hh dX11_isOnTape_17
  · rw [if_neg c3] at hh
    refine lv_iload_n C.1 C.2.1 dX11_isOnTape_4 rfl (lv_at hl 1 rfl) ?_
    refine r_aload_n C.1 C.2.1 dX11_isOnTape_5 rfl (lv_at hl 0 rfl) ?_
    refine r_getI C hm flX11_106 dX11_isOnTape_6 hh (fun x1 _ hh => ?_)
    refine lv_icmp_gt (tgt := 16) C.1 C.2.1 dX11_isOnTape_9 (by decide) (fun c2 => ?_) (fun c2 => ?_)
    · rw [if_pos c2] at hh
      refine lv_iconst (v := 0) C.1 C.2.1 dX11_isOnTape_16 (by decide) ?_
      exact r_bretP hQ C hr hm hs (by decide) hh dX11_isOnTape_17
    · rw [if_neg c2] at hh
      refine lv_iconst (v := 1) C.1 C.2.1 dX11_isOnTape_12 (by decide) ?_
      refine lv_goto (tgt := 17) C.1 C.2.1 dX11_isOnTape_13 (by decide) ?_
      exact r_bretP hQ C hr hm hs (by decide) hh dX11_isOnTape_17
def mX11_beginAnew (h : MHp) (a0 : Nat) : Option (MHp) := (pI 12 14 h (some a0) 0).bind fun h1 => (gR 12 5 h1 (some a0)).bind fun x2 => (cpS 0 h1 0 x2 0 4).bind fun h3 => (gR 12 8 h3 (some a0)).bind fun x4 => (rcv 1 h3 x4).bind fun b6 => (mX0_clear h3 b6).bind fun r5 => (gR 12 9 r5 (some a0)).bind fun x7 => (rcv 7 r5 x7).bind fun b9 => (mX6_clear r5 b9).bind fun r8 => (gR 12 11 r8 (some a0)).bind fun x10 => (rcv 5 r8 x10).bind fun b12 => (mX4_clear r8 b12).bind fun r11 => some r11
set_option maxRecDepth 100000 in
set_option maxHeartbeats 4000000 in
theorem c_X11_beginAnew (l : Launch) (G : Env0) (h : MHp) (a0 : Nat) (res : MHp) (hh : mX11_beginAnew h a0 = some res) : MG l yX11_beginAnew cX11_beginAnew 1 none 2 43 0 0 G h [.ref a0] (none) (res) := by
  refine MG_of (own := RX11) (plainFor_of_name (by decide)) rfl (Nat.le_of_ble_eq_true rfl) ?_
  intro p e s m args below meth c Q ls hQ C X hin hm hs hl hr
  have hl : lv_has ls 1 [(0, va_rf (some a0))] := hl
  unfold mX11_beginAnew at hh
  refine r_aload_n C.1 C.2.1 dX11_beginAnew_0 rfl (lv_at hl 0 rfl) ?_
  refine lv_iconst (v := 0) C.1 C.2.1 dX11_beginAnew_1 (by decide) ?_
  refine r_putI C hm hs flX11_137 (Or.inl fm_12_14) dX11_beginAnew_2 hh (fun h1 H locs _ hh hm hs => ?_)
  refine r_gets C X hs (k := 0) (by decide) (in_tbl q_243 rfl) dX11_beginAnew_5 ?_
  refine lv_iconst (v := 0) C.1 C.2.1 dX11_beginAnew_8 (by decide) ?_
  refine r_aload_n C.1 C.2.1 dX11_beginAnew_9 rfl (lv_at hl 0 rfl) ?_
  refine r_getR C hm flX11_57 dX11_beginAnew_10 hh (fun x2 _ hh => ?_)
  refine lv_iconst (v := 0) C.1 C.2.1 dX11_beginAnew_13 (by decide) ?_
  refine r_gets C X hs (k := 0) (by decide) (in_tbl q_243 rfl) dX11_beginAnew_14 ?_
  refine r_slen C X hs (k := 0) (by decide) dX11_beginAnew_17 ?_
  refine r_copyS C X hm hs (k := 0) (by decide) (in_tbl q_584 rfl) ACW dX11_beginAnew_18 hl.1 (Nat.le_of_ble_eq_true rfl) (Nat.le_of_ble_eq_true rfl) hh (fun h3 H locs _ hh hm hs => ?_)
  refine r_aload_n C.1 C.2.1 dX11_beginAnew_21 rfl (lv_at hl 0 rfl) ?_
  refine r_getR C hm flX11_81 dX11_beginAnew_22 hh (fun x4 _ hh => ?_)
  refine r_cV C X hm hs mlX11_146 mvX11_146 hh (vv := fun r => none) (hp := fun r => r) (fun b r hg => c_X0_clear l G h3 b  r hg) rfl rfl (Nat.le_of_ble_eq_true rfl) (Nat.le_of_ble_eq_true rfl) (Nat.le_of_ble_eq_true rfl) hl.1 dX11_beginAnew_25 (fun b6 r5 H locs hgr5 hh hm hs => ?_)
  refine W.eq (g2 := F0 m 28 ls []) rfl ?_
  refine r_aload_n C.1 C.2.1 dX11_beginAnew_28 rfl (lv_at hl 0 rfl) ?_
  refine r_getR C hm flX11_88 dX11_beginAnew_29 hh (fun x7 _ hh => ?_)
  refine r_cV C X hm hs mlX11_149 mvX11_149 hh (vv := fun r => none) (hp := fun r => r) (fun b r hg => c_X6_clear l G r5 b  r hg) rfl rfl (Nat.le_of_ble_eq_true rfl) (Nat.le_of_ble_eq_true rfl) (Nat.le_of_ble_eq_true rfl) hl.1 dX11_beginAnew_32 (fun b9 r8 H locs hgr8 hh hm hs => ?_)
  refine W.eq (g2 := F0 m 35 ls []) rfl ?_
  refine r_aload_n C.1 C.2.1 dX11_beginAnew_35 rfl (lv_at hl 0 rfl) ?_
  refine r_getR C hm flX11_102 dX11_beginAnew_36 hh (fun x10 _ hh => ?_)
  refine r_cV C X hm hs mlX11_150 mvX11_150 hh (vv := fun r => none) (hp := fun r => r) (fun b r hg => c_X4_clear l G r8 b  r hg) rfl rfl (Nat.le_of_ble_eq_true rfl) (Nat.le_of_ble_eq_true rfl) (Nat.le_of_ble_eq_true rfl) hl.1 dX11_beginAnew_39 (fun b12 r11 H locs hgr11 hh hm hs => ?_)
  refine W.eq (g2 := F0 m 42 ls []) rfl ?_
  exact r_vretW hQ C hr hm hs hh dX11_beginAnew_42
def mX11_book_b14 (h : MHp) (a0 : Nat) (v1 : Int32) (t0 : Option Nat) (t1 : Int32) : Option (Int32 × MHp) := (pI 12 15 h t0 t1).bind fun h1 => (gI 12 15 h1 (some a0)).bind fun x2 => (if x2 = 0 then (pI 12 13 h1 (some a0) 0).bind fun h3 => (gR 12 1 h3 (some a0)).bind fun x4 => (gR 12 12 h3 (some a0)).bind fun x5 => (rcv 9 h3 x4).bind fun b7 => (mX8_readBook h3 b7 v1 x5).bind fun r6 => (if r6.1 = 0 then (pI 12 15 r6.2 (some a0) 4).bind fun h20 => some ((-1), h20) else (gR 12 2 r6.2 (some a0)).bind fun x8 => (gR 10 5 r6.2 x8).bind fun x9 => (gR 12 2 r6.2 (some a0)).bind fun x10 => (gR 12 12 r6.2 (some a0)).bind fun x11 => (rcv 10 r6.2 x10).bind fun b13 => (mX9_begin r6.2 b13 x11).bind fun r12 => (pR 12 12 r12 (some a0) x9).bind fun h14 => (rcv 12 h14 (some a0)).bind fun b16 => (mX11_beginAnew h14 b16).bind fun r15 => (gR 12 2 r15 (some a0)).bind fun x17 => (gR 10 5 r15 x17).bind fun x18 => (gI 2 4 r15 x18).bind fun x19 => some (x19, r15)) else some ((-1), h1))
def mX11_book (h : MHp) (a0 : Nat) (a1 : Int32) : Option (Int32 × MHp) := (rcv 12 h (some a0)).bind fun b24 => (mX11_isOnTape h b24 a1).bind fun r23 => (if r23 = 0 then mX11_book_b14 h a0 a1 (some a0) 2 else mX11_book_b14 h a0 a1 (some a0) 0)
set_option maxRecDepth 100000 in
set_option maxHeartbeats 4000000 in
theorem c_X11_book (l : Launch) (G : Env0) (h : MHp) (a0 : Nat) (a1 : Int32) (res : Int32 × MHp) (hh : mX11_book h a0 a1 = some res) : MG l yX11_book cX11_book 3 (some .int) 6 135 0 0 G h [.ref a0, .int a1] (some (.int res.1)) (res.2) := by
  refine MG_of (own := RX11) (plainFor_of_name (by decide)) rfl (Nat.le_of_ble_eq_true rfl) ?_
  intro p e s m args below meth c Q ls hQ C X hin hm hs hl hr
  have hl : lv_has ls 3 [(0, va_rf (some a0)), (1, .int a1)] := hl
  have B14 : ∀ (h : MHp) (H : Heap) (locs : List Loc) (ls : Array Slot) (a0 : Nat) (v1 : Int32) (t0 : Option Nat) (t1 : Int32) , mHp (gD G) (gC G) (gB G) h H → va_S (fun q => gB G ≤ q) s.heap H locs → lv_has ls 3 [(0, va_rf (some a0)), (1, .int v1)] → mX11_book_b14 h a0 v1 t0 t1 = some res → W p l e ({ frames := 6, cells := 0, slots := 0, locals := 135 }) s m args below meth c H locs 0 0 Q (F0 m 14 ls [.int t1, va_rf t0]) := by
    intro h H locs ls a0 v1 t0 t1 hm hs hl hh
    unfold mX11_book_b14 at hh
    refine r_putI C hm hs flX11_118 (Or.inl fm_12_15) dX11_book_14 hh (fun h1 H locs _ hh hm hs => ?_)
    refine r_aload_n C.1 C.2.1 dX11_book_17 rfl (lv_at hl 0 rfl) ?_
    refine r_getI C hm flX11_118 dX11_book_18 hh (fun x2 _ hh => ?_)
    refine lv_if_eq (tgt := 26) C.1 C.2.1 dX11_book_21 (by decide) (fun c22 => ?_) (fun c22 => ?_)
    · rw [if_pos c22] at hh
      refine r_aload_n C.1 C.2.1 dX11_book_26 rfl (lv_at hl 0 rfl) ?_
      refine lv_iconst (v := 0) C.1 C.2.1 dX11_book_27 (by decide) ?_
      refine r_putI C hm hs flX11_106 (Or.inl fm_12_13) dX11_book_28 hh (fun h3 H locs _ hh hm hs => ?_)
      refine r_aload_n C.1 C.2.1 dX11_book_31 rfl (lv_at hl 0 rfl) ?_
      refine r_getR C hm flX11_25 dX11_book_32 hh (fun x4 _ hh => ?_)
      refine lv_iload_n C.1 C.2.1 dX11_book_35 rfl (lv_at hl 1 rfl) ?_
      refine r_aload_n C.1 C.2.1 dX11_book_36 rfl (lv_at hl 0 rfl) ?_
      refine r_getR C hm flX11_16 dX11_book_37 hh (fun x5 _ hh => ?_)
      refine r_cV C X hm hs mlX11_121 mvX11_121 hh (vv := fun r => some (.int r.1)) (hp := fun r => r.2) (fun b r hg => c_X8_readBook l G h3 b _ _ r hg) rfl rfl (Nat.le_of_ble_eq_true rfl) (Nat.le_of_ble_eq_true rfl) (Nat.le_of_ble_eq_true rfl) hl.1 dX11_book_40 (fun b7 r6 H locs hgr6 hh hm hs => ?_)
      refine W.eq (g2 := F0 m 43 ls [.int r6.1]) rfl ?_
      refine lv_if_ne (tgt := 53) C.1 C.2.1 dX11_book_43 (by decide) (fun c21 => ?_) (fun c21 => ?_)
      · rw [if_neg c21] at hh
        refine r_aload_n C.1 C.2.1 dX11_book_53 rfl (lv_at hl 0 rfl) ?_
        refine r_getR C hm flX11_34 dX11_book_54 hh (fun x8 _ hh => ?_)
        refine r_getR C hm flX11_125 dX11_book_57 hh (fun x9 _ hh => ?_)
        refine r_astore_n (i := 2) (lv' := [(2, va_rf x9), (0, va_rf (some a0)), (1, .int v1)]) C.1 C.2.1 dX11_book_60 rfl hl (by decide) rfl (fun ls hl => ?_)
        refine r_aload_n C.1 C.2.1 dX11_book_61 rfl (lv_at hl 1 rfl) ?_
        refine r_getR C hm flX11_34 dX11_book_62 hh (fun x10 _ hh => ?_)
        refine r_aload_n C.1 C.2.1 dX11_book_65 rfl (lv_at hl 1 rfl) ?_
        refine r_getR C hm flX11_16 dX11_book_66 hh (fun x11 _ hh => ?_)
        refine r_cV C X hm hs mlX11_128 mvX11_128 hh (vv := fun r => none) (hp := fun r => r) (fun b r hg => c_X9_begin l G r6.2 b _ r hg) rfl rfl (Nat.le_of_ble_eq_true rfl) (Nat.le_of_ble_eq_true rfl) (Nat.le_of_ble_eq_true rfl) hl.1 dX11_book_69 (fun b13 r12 H locs hgr12 hh hm hs => ?_)
        refine W.eq (g2 := F0 m 72 ls []) rfl ?_
        refine r_aload_n C.1 C.2.1 dX11_book_72 rfl (lv_at hl 1 rfl) ?_
        refine r_aload_n C.1 C.2.1 dX11_book_73 rfl (lv_at hl 0 rfl) ?_
        refine r_putR C hm hs flX11_16 (Or.inl fm_12_12) dX11_book_74 hh (fun h14 H locs _ hh hm hs => ?_)
        refine r_aload_n C.1 C.2.1 dX11_book_77 rfl (lv_at hl 1 rfl) ?_
        refine r_cV C X hm hs mlX11_131 mvX11_131 hh (vv := fun r => none) (hp := fun r => r) (fun b r hg => c_X11_beginAnew l G h14 b  r hg) rfl rfl (Nat.le_of_ble_eq_true rfl) (Nat.le_of_ble_eq_true rfl) (Nat.le_of_ble_eq_true rfl) hl.1 dX11_book_78 (fun b16 r15 H locs hgr15 hh hm hs => ?_)
        refine W.eq (g2 := F0 m 81 ls []) rfl ?_
        refine r_aload_n C.1 C.2.1 dX11_book_81 rfl (lv_at hl 1 rfl) ?_
        refine r_getR C hm flX11_34 dX11_book_82 hh (fun x17 _ hh => ?_)
        refine r_getR C hm flX11_125 dX11_book_85 hh (fun x18 _ hh => ?_)
        refine r_getI C hm flX11_134 dX11_book_88 hh (fun x19 _ hh => ?_)
        exact r_iretW hQ C hr hm hs hh dX11_book_91
      · rw [if_pos c21] at hh
        refine r_aload_n C.1 C.2.1 dX11_book_46 rfl (lv_at hl 0 rfl) ?_
        refine lv_iconst (v := 4) C.1 C.2.1 dX11_book_47 (by decide) ?_
        refine r_putI C hm hs flX11_118 (Or.inl fm_12_15) dX11_book_48 hh (fun h20 H locs _ hh hm hs => ?_)
        refine lv_iconst (v := (-1)) C.1 C.2.1 dX11_book_51 (by decide) ?_
        exact r_iretW hQ C hr hm hs hh dX11_book_52
    · rw [if_neg c22] at hh
      refine lv_iconst (v := (-1)) C.1 C.2.1 dX11_book_24 (by decide) ?_
      exact r_iretW hQ C hr hm hs hh dX11_book_25
  unfold mX11_book at hh
  refine r_aload_n C.1 C.2.1 dX11_book_0 rfl (lv_at hl 0 rfl) ?_
  refine r_aload_n C.1 C.2.1 dX11_book_1 rfl (lv_at hl 0 rfl) ?_
  refine lv_iload_n C.1 C.2.1 dX11_book_2 rfl (lv_at hl 1 rfl) ?_
  refine r_cV C X hm hs mlX11_114 mvX11_114 hh (vv := fun r => some (.int r)) (hp := fun r => h) (fun b r hg => c_X11_isOnTape l G h b _ r hg) rfl rfl (by simp [va_cat, vc_i, vc_l, vc_r]) (Nat.le_of_ble_eq_true rfl) (Nat.le_of_ble_eq_true rfl) hl.1 dX11_book_3 (fun b24 r23 H locs hgr23 hh hm hs => ?_)
  refine W.eq (g2 := F0 m 6 ls [.int r23, va_rf (some a0)]) rfl ?_
  refine lv_if_eq (tgt := 13) C.1 C.2.1 dX11_book_6 (by decide) (fun c25 => ?_) (fun c25 => ?_)
  · rw [if_pos c25] at hh
    refine lv_iconst (v := 2) C.1 C.2.1 dX11_book_13 (by decide) ?_
    exact B14 _ _ _ _ _ _ _ _  hm hs (lv_sub hl [0, 1] rfl) hh
  · rw [if_neg c25] at hh
    refine lv_iconst (v := 0) C.1 C.2.1 dX11_book_9 (by decide) ?_
    refine lv_goto (tgt := 14) C.1 C.2.1 dX11_book_10 (by decide) ?_
    exact B14 _ _ _ _ _ _ _ _  hm hs (lv_sub hl [0, 1] rfl) hh
def mX11_hasBook (h : MHp) (a0 : Nat) : Option (Int32) := (gR 12 2 h (some a0)).bind fun x1 => (gR 10 5 h x1).bind fun x2 => (gI 2 4 h x2).bind fun x3 => (if x3 ≤ 0 then some 0 else some 1)
set_option maxRecDepth 100000 in
set_option maxHeartbeats 4000000 in
theorem c_X11_hasBook (l : Launch) (G : Env0) (h : MHp) (a0 : Nat) (res : Int32) (hh : mX11_hasBook h a0 = some res) : MG l yX11_hasBook cX11_hasBook 1 (some .boolean) 0 0 0 0 G h [.ref a0] (some (.int res)) (h) := by
  refine MG_of (own := RX11) (plainFor_of_name (by decide)) rfl (Nat.le_of_ble_eq_true rfl) ?_
  intro p e s m args below meth c Q ls hQ C X hin hm hs hl hr
  have hl : lv_has ls 1 [(0, va_rf (some a0))] := hl
  unfold mX11_hasBook at hh
  refine r_aload_n C.1 C.2.1 dX11_hasBook_0 rfl (lv_at hl 0 rfl) ?_
  refine r_getR C hm flX11_34 dX11_hasBook_1 hh (fun x1 _ hh => ?_)
  refine r_getR C hm flX11_125 dX11_hasBook_4 hh (fun x2 _ hh => ?_)
  refine r_getI C hm flX11_134 dX11_hasBook_7 hh (fun x3 _ hh => ?_)
  refine lv_if_le (tgt := 17) C.1 C.2.1 dX11_hasBook_10 (by decide) (fun c4 => ?_) (fun c4 => ?_)
  · rw [if_pos c4] at hh
    refine lv_iconst (v := 0) C.1 C.2.1 dX11_hasBook_17 (by decide) ?_
    exact r_bretP hQ C hr hm hs (by decide) hh dX11_hasBook_18
  · rw [if_neg c4] at hh
    refine lv_iconst (v := 1) C.1 C.2.1 dX11_hasBook_13 (by decide) ?_
    refine lv_goto (tgt := 18) C.1 C.2.1 dX11_hasBook_14 (by decide) ?_
    exact r_bretP hQ C hr hm hs (by decide) hh dX11_hasBook_18
def mX11_table_b25 (h : MHp) (a0 : Nat) (v1 : Int32) (t0 : Option Nat) (t1 : Int32) : Option (Int32 × MHp) := (pI 12 15 h t0 t1).bind fun h1 => (gI 12 15 h1 (some a0)).bind fun x2 => (if x2 = 0 then (gI 12 14 h1 (some a0)).bind fun x3 => (if x3 < 0 then some ((-1), h1) else (gI 12 14 h1 (some a0)).bind fun x4 => (gR 12 3 h1 (some a0)).bind fun x5 => (gN 24 h1 x5).bind fun x6 => (if x4 < x6 then (pI 12 13 h1 (some a0) 0).bind fun h7 => (gR 12 1 h7 (some a0)).bind fun x8 => (gR 12 3 h7 (some a0)).bind fun x9 => (gI 12 14 h7 (some a0)).bind fun x10 => (gAR 24 h7 x9 x10).bind fun x11 => (gR 12 2 h7 (some a0)).bind fun x12 => (gR 10 5 h7 x12).bind fun x13 => (rcv 9 h7 x8).bind fun b15 => (mX8_readTable h7 b15 v1 x11 x13).bind fun r14 => (if r14.1 = 0 then (pI 12 15 r14.2 (some a0) 4).bind fun h22 => some ((-1), h22) else (gI 12 14 r14.2 (some a0)).bind fun x16 => (if x16 < 8 then (gI 12 14 r14.2 (some a0)).bind fun x17 => (pI 12 14 r14.2 (some a0) (x17 + 1)).bind fun h18 => (gI 12 14 h18 (some a0)).bind fun x19 => some ((x19 - 1), h18) else (pI 12 15 r14.2 (some a0) 3).bind fun h20 => some ((-1), h20))) else some ((-1), h1))) else some ((-1), h1))
def mX11_table (h : MHp) (a0 : Nat) (a1 : Int32) : Option (Int32 × MHp) := (rcv 12 h (some a0)).bind fun b28 => (mX11_hasBook h b28).bind fun r27 => (if r27 = 0 then mX11_table_b25 h a0 a1 (some a0) 1 else (rcv 12 h (some a0)).bind fun b30 => (mX11_isOnTape h b30 a1).bind fun r29 => (if r29 = 0 then mX11_table_b25 h a0 a1 (some a0) 2 else mX11_table_b25 h a0 a1 (some a0) 0))
set_option maxRecDepth 100000 in
set_option maxHeartbeats 4000000 in
theorem c_X11_table (l : Launch) (G : Env0) (h : MHp) (a0 : Nat) (a1 : Int32) (res : Int32 × MHp) (hh : mX11_table h a0 a1 = some res) : MG l yX11_table cX11_table 2 (some .int) 5 114 0 0 G h [.ref a0, .int a1] (some (.int res.1)) (res.2) := by
  refine MG_of (own := RX11) (plainFor_of_name (by decide)) rfl (Nat.le_of_ble_eq_true rfl) ?_
  intro p e s m args below meth c Q ls hQ C X hin hm hs hl hr
  have hl : lv_has ls 2 [(0, va_rf (some a0)), (1, .int a1)] := hl
  have B25 : ∀ (h : MHp) (H : Heap) (locs : List Loc) (ls : Array Slot) (a0 : Nat) (v1 : Int32) (t0 : Option Nat) (t1 : Int32) , mHp (gD G) (gC G) (gB G) h H → va_S (fun q => gB G ≤ q) s.heap H locs → lv_has ls 2 [(0, va_rf (some a0)), (1, .int v1)] → mX11_table_b25 h a0 v1 t0 t1 = some res → W p l e ({ frames := 5, cells := 0, slots := 0, locals := 114 }) s m args below meth c H locs 0 0 Q (F0 m 25 ls [.int t1, va_rf t0]) := by
    intro h H locs ls a0 v1 t0 t1 hm hs hl hh
    unfold mX11_table_b25 at hh
    refine r_putI C hm hs flX11_118 (Or.inl fm_12_15) dX11_table_25 hh (fun h1 H locs _ hh hm hs => ?_)
    refine r_aload_n C.1 C.2.1 dX11_table_28 rfl (lv_at hl 0 rfl) ?_
    refine r_getI C hm flX11_118 dX11_table_29 hh (fun x2 _ hh => ?_)
    refine lv_if_ne (tgt := 54) C.1 C.2.1 dX11_table_32 (by decide) (fun c26 => ?_) (fun c26 => ?_)
    · rw [if_neg c26] at hh
      refine lv_iconst (v := (-1)) C.1 C.2.1 dX11_table_54 (by decide) ?_
      exact r_iretW hQ C hr hm hs hh dX11_table_55
    · rw [if_pos c26] at hh
      refine r_aload_n C.1 C.2.1 dX11_table_35 rfl (lv_at hl 0 rfl) ?_
      refine r_getI C hm flX11_137 dX11_table_36 hh (fun x3 _ hh => ?_)
      refine lv_if_lt (tgt := 54) C.1 C.2.1 dX11_table_39 (by decide) (fun c25 => ?_) (fun c25 => ?_)
      · rw [if_pos c25] at hh
        refine lv_iconst (v := (-1)) C.1 C.2.1 dX11_table_54 (by decide) ?_
        exact r_iretW hQ C hr hm hs hh dX11_table_55
      · rw [if_neg c25] at hh
        refine r_aload_n C.1 C.2.1 dX11_table_42 rfl (lv_at hl 0 rfl) ?_
        refine r_getI C hm flX11_137 dX11_table_43 hh (fun x4 _ hh => ?_)
        refine r_aload_n C.1 C.2.1 dX11_table_46 rfl (lv_at hl 0 rfl) ?_
        refine r_getR C hm flX11_40 dX11_table_47 hh (fun x5 _ hh => ?_)
        refine r_len C hm dX11_table_50 (kd := 24) (by decide) hh (fun x6 _ hh => ?_)
        refine lv_icmp_lt (tgt := 56) C.1 C.2.1 dX11_table_51 (by decide) (fun c24 => ?_) (fun c24 => ?_)
        · rw [if_pos c24] at hh
          refine r_aload_n C.1 C.2.1 dX11_table_56 rfl (lv_at hl 0 rfl) ?_
          refine lv_iconst (v := 0) C.1 C.2.1 dX11_table_57 (by decide) ?_
          refine r_putI C hm hs flX11_106 (Or.inl fm_12_13) dX11_table_58 hh (fun h7 H locs _ hh hm hs => ?_)
          refine r_aload_n C.1 C.2.1 dX11_table_61 rfl (lv_at hl 0 rfl) ?_
          refine r_getR C hm flX11_25 dX11_table_62 hh (fun x8 _ hh => ?_)
          refine lv_iload_n C.1 C.2.1 dX11_table_65 rfl (lv_at hl 1 rfl) ?_
          refine r_aload_n C.1 C.2.1 dX11_table_66 rfl (lv_at hl 0 rfl) ?_
          refine r_getR C hm flX11_40 dX11_table_67 hh (fun x9 _ hh => ?_)
          refine r_aload_n C.1 C.2.1 dX11_table_70 rfl (lv_at hl 0 rfl) ?_
          refine r_getI C hm flX11_137 dX11_table_71 hh (fun x10 _ hh => ?_)
          refine r_ald_q C hm dX11_table_74 (kd := 24) (by decide) (t0 := 4) rfl hh (fun x11 _ hh => ?_)
          refine r_aload_n C.1 C.2.1 dX11_table_75 rfl (lv_at hl 0 rfl) ?_
          refine r_getR C hm flX11_34 dX11_table_76 hh (fun x12 _ hh => ?_)
          refine r_getR C hm flX11_125 dX11_table_79 hh (fun x13 _ hh => ?_)
          refine r_cV C X hm hs mlX11_155 mvX11_155 hh (vv := fun r => some (.int r.1)) (hp := fun r => r.2) (fun b r hg => c_X8_readTable l G h7 b _ _ _ r hg) rfl rfl (Nat.le_of_ble_eq_true rfl) (Nat.le_of_ble_eq_true rfl) (Nat.le_of_ble_eq_true rfl) hl.1 dX11_table_82 (fun b15 r14 H locs hgr14 hh hm hs => ?_)
          refine W.eq (g2 := F0 m 85 ls [.int r14.1]) rfl ?_
          refine lv_if_ne (tgt := 95) C.1 C.2.1 dX11_table_85 (by decide) (fun c23 => ?_) (fun c23 => ?_)
          · rw [if_neg c23] at hh
            refine r_aload_n C.1 C.2.1 dX11_table_95 rfl (lv_at hl 0 rfl) ?_
            refine r_getI C hm flX11_137 dX11_table_96 hh (fun x16 _ hh => ?_)
            refine lv_bipush (v := 8) C.1 C.2.1 dX11_table_99 (by decide) ?_
            refine lv_icmp_lt (tgt := 111) C.1 C.2.1 dX11_table_101 (by decide) (fun c21 => ?_) (fun c21 => ?_)
            · rw [if_pos c21] at hh
              refine r_aload_n C.1 C.2.1 dX11_table_111 rfl (lv_at hl 0 rfl) ?_
              refine lv_dup C.1 C.2.1 dX11_table_112 (va_cat _) ?_
              refine r_getI C hm flX11_137 dX11_table_113 hh (fun x17 _ hh => ?_)
              refine lv_iconst (v := 1) C.1 C.2.1 dX11_table_116 (by decide) ?_
              refine lv_iadd C.1 C.2.1 dX11_table_117 ?_
              refine r_putI C hm hs flX11_137 (Or.inl fm_12_14) dX11_table_118 hh (fun h18 H locs _ hh hm hs => ?_)
              refine r_aload_n C.1 C.2.1 dX11_table_121 rfl (lv_at hl 0 rfl) ?_
              refine r_getI C hm flX11_137 dX11_table_122 hh (fun x19 _ hh => ?_)
              refine lv_iconst (v := 1) C.1 C.2.1 dX11_table_125 (by decide) ?_
              refine lv_isub C.1 C.2.1 dX11_table_126 ?_
              exact r_iretW hQ C hr hm hs hh dX11_table_127
            · rw [if_neg c21] at hh
              refine r_aload_n C.1 C.2.1 dX11_table_104 rfl (lv_at hl 0 rfl) ?_
              refine lv_iconst (v := 3) C.1 C.2.1 dX11_table_105 (by decide) ?_
              refine r_putI C hm hs flX11_118 (Or.inl fm_12_15) dX11_table_106 hh (fun h20 H locs _ hh hm hs => ?_)
              refine lv_iconst (v := (-1)) C.1 C.2.1 dX11_table_109 (by decide) ?_
              exact r_iretW hQ C hr hm hs hh dX11_table_110
          · rw [if_pos c23] at hh
            refine r_aload_n C.1 C.2.1 dX11_table_88 rfl (lv_at hl 0 rfl) ?_
            refine lv_iconst (v := 4) C.1 C.2.1 dX11_table_89 (by decide) ?_
            refine r_putI C hm hs flX11_118 (Or.inl fm_12_15) dX11_table_90 hh (fun h22 H locs _ hh hm hs => ?_)
            refine lv_iconst (v := (-1)) C.1 C.2.1 dX11_table_93 (by decide) ?_
            exact r_iretW hQ C hr hm hs hh dX11_table_94
        · rw [if_neg c24] at hh
          refine lv_iconst (v := (-1)) C.1 C.2.1 dX11_table_54 (by decide) ?_
          exact r_iretW hQ C hr hm hs hh dX11_table_55
  unfold mX11_table at hh
  refine r_aload_n C.1 C.2.1 dX11_table_0 rfl (lv_at hl 0 rfl) ?_
  refine r_aload_n C.1 C.2.1 dX11_table_1 rfl (lv_at hl 0 rfl) ?_
  refine r_cV C X hm hs mlX11_151 mvX11_151 hh (vv := fun r => some (.int r)) (hp := fun r => h) (fun b r hg => c_X11_hasBook l G h b  r hg) rfl rfl (by simp [va_cat, vc_i, vc_l, vc_r]) (Nat.le_of_ble_eq_true rfl) (Nat.le_of_ble_eq_true rfl) hl.1 dX11_table_2 (fun b28 r27 H locs hgr27 hh hm hs => ?_)
  refine W.eq (g2 := F0 m 5 ls [.int r27, va_rf (some a0)]) rfl ?_
  refine lv_if_ne (tgt := 12) C.1 C.2.1 dX11_table_5 (by decide) (fun c32 => ?_) (fun c32 => ?_)
  · rw [if_neg c32] at hh
    refine r_aload_n C.1 C.2.1 dX11_table_12 rfl (lv_at hl 0 rfl) ?_
    refine lv_iload_n C.1 C.2.1 dX11_table_13 rfl (lv_at hl 1 rfl) ?_
    refine r_cV C X hm hs mlX11_114 mvX11_114 hh (vv := fun r => some (.int r)) (hp := fun r => h) (fun b r hg => c_X11_isOnTape l G h b _ r hg) rfl rfl (by simp [va_cat, vc_i, vc_l, vc_r]) (Nat.le_of_ble_eq_true rfl) (Nat.le_of_ble_eq_true rfl) hl.1 dX11_table_14 (fun b30 r29 H locs hgr29 hh hm hs => ?_)
    refine W.eq (g2 := F0 m 17 ls [.int r29, va_rf (some a0)]) rfl ?_
    refine lv_if_eq (tgt := 24) C.1 C.2.1 dX11_table_17 (by decide) (fun c31 => ?_) (fun c31 => ?_)
    · rw [if_pos c31] at hh
      refine lv_iconst (v := 2) C.1 C.2.1 dX11_table_24 (by decide) ?_
      exact B25 _ _ _ _ _ _ _ _  hm hs (lv_sub hl [0, 1] rfl) hh
    · rw [if_neg c31] at hh
      refine lv_iconst (v := 0) C.1 C.2.1 dX11_table_20 (by decide) ?_
      refine lv_goto (tgt := 25) C.1 C.2.1 dX11_table_21 (by decide) ?_
      exact B25 _ _ _ _ _ _ _ _  hm hs (lv_sub hl [0, 1] rfl) hh
  · rw [if_pos c32] at hh
    refine lv_iconst (v := 1) C.1 C.2.1 dX11_table_8 (by decide) ?_
    refine lv_goto (tgt := 25) C.1 C.2.1 dX11_table_9 (by decide) ?_
    exact B25 _ _ _ _ _ _ _ _  hm hs (lv_sub hl [0, 1] rfl) hh
def mX11_fault (h : MHp) (a0 : Nat) : Option (Int32) := (gR 12 1 h (some a0)).bind fun x1 => (gI 9 1 h x1).bind fun x2 => some x2
set_option maxRecDepth 100000 in
set_option maxHeartbeats 4000000 in
theorem c_X11_fault (l : Launch) (G : Env0) (h : MHp) (a0 : Nat) (res : Int32) (hh : mX11_fault h a0 = some res) : MG l yX11_fault cX11_fault 1 (some .int) 0 0 0 0 G h [.ref a0] (some (.int res)) (h) := by
  refine MG_of (own := RX11) (plainFor_of_name (by decide)) rfl (Nat.le_of_ble_eq_true rfl) ?_
  intro p e s m args below meth c Q ls hQ C X hin hm hs hl hr
  have hl : lv_has ls 1 [(0, va_rf (some a0))] := hl
  unfold mX11_fault at hh
  refine r_aload_n C.1 C.2.1 dX11_fault_0 rfl (lv_at hl 0 rfl) ?_
  refine r_getR C hm flX11_25 dX11_fault_1 hh (fun x1 _ hh => ?_)
  refine r_getI C hm flX11_159 dX11_fault_4 hh (fun x2 _ hh => ?_)
  exact r_iretP hQ C hr hm hs hh dX11_fault_7
def mX11_where (h : MHp) (a0 : Nat) : Option (Int32) := (gI 12 15 h (some a0)).bind fun x1 => (if x1 = 4 then (gR 12 1 h (some a0)).bind fun x2 => (gI 9 2 h x2).bind fun x3 => some x3 else some (-1))
set_option maxRecDepth 100000 in
set_option maxHeartbeats 4000000 in
theorem c_X11_where (l : Launch) (G : Env0) (h : MHp) (a0 : Nat) (res : Int32) (hh : mX11_where h a0 = some res) : MG l yX11_where cX11_where 1 (some .int) 0 0 0 0 G h [.ref a0] (some (.int res)) (h) := by
  refine MG_of (own := RX11) (plainFor_of_name (by decide)) rfl (Nat.le_of_ble_eq_true rfl) ?_
  intro p e s m args below meth c Q ls hQ C X hin hm hs hl hr
  have hl : lv_has ls 1 [(0, va_rf (some a0))] := hl
  unfold mX11_where at hh
  refine r_aload_n C.1 C.2.1 dX11_where_0 rfl (lv_at hl 0 rfl) ?_
  refine r_getI C hm flX11_118 dX11_where_1 hh (fun x1 _ hh => ?_)
  refine lv_iconst (v := 4) C.1 C.2.1 dX11_where_4 (by decide) ?_
  refine lv_icmp_ne (tgt := 18) C.1 C.2.1 dX11_where_5 (by decide) (fun c4 => ?_) (fun c4 => ?_)
  · rw [if_neg c4] at hh
    refine lv_iconst (v := (-1)) C.1 C.2.1 dX11_where_18 (by decide) ?_
    exact r_iretP hQ C hr hm hs hh dX11_where_19
  · rw [if_pos c4] at hh
    refine r_aload_n C.1 C.2.1 dX11_where_8 rfl (lv_at hl 0 rfl) ?_
    refine r_getR C hm flX11_25 dX11_where_9 hh (fun x2 _ hh => ?_)
    refine r_getI C hm flX11_162 dX11_where_12 hh (fun x3 _ hh => ?_)
    refine lv_goto (tgt := 19) C.1 C.2.1 dX11_where_15 (by decide) ?_
    exact r_iretP hQ C hr hm hs hh dX11_where_19
def mX11_field (h : MHp) (a0 : Nat) (a1 : Int32) (a2 : Int32) : Option (Int32) := (gR 12 2 h (some a0)).bind fun x1 => (gR 10 5 h x1).bind fun x2 => (rcv 2 h x2).bind fun b4 => (mX1_hasField h b4 a1).bind fun r3 => (if r3 = 0 then some (-1) else (if a2 = 0 then (gR 12 2 h (some a0)).bind fun x10 => (gR 10 5 h x10).bind fun x11 => (gR 2 1 h x11).bind fun x12 => (gAI 20 h x12 a1).bind fun x13 => some x13 else (if a2 = 1 then (gR 12 2 h (some a0)).bind fun x5 => (gR 10 5 h x5).bind fun x6 => (gR 2 2 h x6).bind fun x7 => (gAI 20 h x7 a1).bind fun x8 => some x8 else some (-1))))
set_option maxRecDepth 100000 in
set_option maxHeartbeats 4000000 in
theorem c_X11_field (l : Launch) (G : Env0) (h : MHp) (a0 : Nat) (a1 : Int32) (a2 : Int32) (res : Int32) (hh : mX11_field h a0 a1 a2 = some res) : MG l yX11_field cX11_field 3 (some .int) 1 21 0 0 G h [.ref a0, .int a1, .int a2] (some (.int res)) (h) := by
  refine MG_of (own := RX11) (plainFor_of_name (by decide)) rfl (Nat.le_of_ble_eq_true rfl) ?_
  intro p e s m args below meth c Q ls hQ C X hin hm hs hl hr
  have hl : lv_has ls 3 [(0, va_rf (some a0)), (1, .int a1), (2, .int a2)] := hl
  unfold mX11_field at hh
  refine r_aload_n C.1 C.2.1 dX11_field_0 rfl (lv_at hl 0 rfl) ?_
  refine r_getR C hm flX11_34 dX11_field_1 hh (fun x1 _ hh => ?_)
  refine r_getR C hm flX11_125 dX11_field_4 hh (fun x2 _ hh => ?_)
  refine lv_iload_n C.1 C.2.1 dX11_field_7 rfl (lv_at hl 1 rfl) ?_
  refine r_cV C X hm hs mlX11_165 mvX11_165 hh (vv := fun r => some (.int r)) (hp := fun r => h) (fun b r hg => c_X1_hasField l G h b _ r hg) rfl rfl (Nat.le_of_ble_eq_true rfl) (Nat.le_of_ble_eq_true rfl) (Nat.le_of_ble_eq_true rfl) hl.1 dX11_field_8 (fun b4 r3 H locs hgr3 hh hm hs => ?_)
  refine W.eq (g2 := F0 m 11 ls [.int r3]) rfl ?_
  refine lv_if_ne (tgt := 16) C.1 C.2.1 dX11_field_11 (by decide) (fun c15 => ?_) (fun c15 => ?_)
  · rw [if_neg c15] at hh
    refine lv_iload_n C.1 C.2.1 dX11_field_16 rfl (lv_at hl 2 rfl) ?_
    refine lv_if_ne (tgt := 35) C.1 C.2.1 dX11_field_17 (by decide) (fun c14 => ?_) (fun c14 => ?_)
    · rw [if_neg c14] at hh
      refine lv_iload_n C.1 C.2.1 dX11_field_35 rfl (lv_at hl 2 rfl) ?_
      refine lv_iconst (v := 1) C.1 C.2.1 dX11_field_36 (by decide) ?_
      refine lv_icmp_ne (tgt := 55) C.1 C.2.1 dX11_field_37 (by decide) (fun c9 => ?_) (fun c9 => ?_)
      · rw [if_neg c9] at hh
        refine lv_iconst (v := (-1)) C.1 C.2.1 dX11_field_55 (by decide) ?_
        exact r_iretP hQ C hr hm hs hh dX11_field_56
      · rw [if_pos c9] at hh
        refine r_aload_n C.1 C.2.1 dX11_field_40 rfl (lv_at hl 0 rfl) ?_
        refine r_getR C hm flX11_34 dX11_field_41 hh (fun x5 _ hh => ?_)
        refine r_getR C hm flX11_125 dX11_field_44 hh (fun x6 _ hh => ?_)
        refine r_getR C hm flX11_171 dX11_field_47 hh (fun x7 _ hh => ?_)
        refine lv_iload_n C.1 C.2.1 dX11_field_50 rfl (lv_at hl 1 rfl) ?_
        refine r_ald C hm dX11_field_51 hh (fun x8 _ hh => ?_)
        refine lv_goto (tgt := 56) C.1 C.2.1 dX11_field_52 (by decide) ?_
        exact r_iretP hQ C hr hm hs hh dX11_field_56
    · rw [if_pos c14] at hh
      refine r_aload_n C.1 C.2.1 dX11_field_20 rfl (lv_at hl 0 rfl) ?_
      refine r_getR C hm flX11_34 dX11_field_21 hh (fun x10 _ hh => ?_)
      refine r_getR C hm flX11_125 dX11_field_24 hh (fun x11 _ hh => ?_)
      refine r_getR C hm flX11_168 dX11_field_27 hh (fun x12 _ hh => ?_)
      refine lv_iload_n C.1 C.2.1 dX11_field_30 rfl (lv_at hl 1 rfl) ?_
      refine r_ald C hm dX11_field_31 hh (fun x13 _ hh => ?_)
      refine lv_goto (tgt := 56) C.1 C.2.1 dX11_field_32 (by decide) ?_
      exact r_iretP hQ C hr hm hs hh dX11_field_56
  · rw [if_pos c15] at hh
    refine lv_iconst (v := (-1)) C.1 C.2.1 dX11_field_14 (by decide) ?_
    exact r_iretP hQ C hr hm hs hh dX11_field_15
def mX11_row_b93 (h : MHp) (a0 : Nat) (t0 : Option Nat) (t1 : Int32) : Option (Int32 × MHp) := (pI 12 15 h t0 t1).bind fun h1 => (gI 12 15 h1 (some a0)).bind fun x2 => (if x2 = 0 then (gR 12 2 h1 (some a0)).bind fun x3 => (gR 12 4 h1 (some a0)).bind fun x4 => (rcv 10 h1 x3).bind fun b6 => (mX9_add h1 b6 x4).bind fun r5 => some (r5.1, r5.2) else some ((-1), h1))
def mX11_row (h : MHp) (a0 : Nat) (a1 : Int32) (a2 : Int32) (a3 : Int32) (a4 : Int32) (a5 : Int32) (a6 : Int32) : Option (Int32 × MHp) := (gR 12 4 h (some a0)).bind fun x8 => (pAI 20 h x8 0 a1).bind fun h9 => (gR 12 4 h9 (some a0)).bind fun x10 => (pAI 20 h9 x10 1 a2).bind fun h11 => (gR 12 4 h11 (some a0)).bind fun x12 => (pAI 20 h11 x12 2 a3).bind fun h13 => (gR 12 4 h13 (some a0)).bind fun x14 => (pAI 20 h13 x14 3 a4).bind fun h15 => (gR 12 4 h15 (some a0)).bind fun x16 => (pAI 20 h15 x16 4 a5).bind fun h17 => (gR 12 4 h17 (some a0)).bind fun x18 => (pAI 20 h17 x18 5 a6).bind fun h19 => (rcv 12 h19 (some a0)).bind fun b21 => (mX11_hasBook h19 b21).bind fun r20 => (if r20 = 0 then mX11_row_b93 h19 a0 (some a0) 1 else (gR 12 2 h19 (some a0)).bind fun x22 => (gR 10 5 h19 x22).bind fun x23 => (gR 12 4 h19 (some a0)).bind fun x24 => (rcv 2 h19 x23).bind fun b26 => (mX1_allows h19 b26 x24).bind fun r25 => (if r25 = 0 then mX11_row_b93 h19 a0 (some a0) 2 else (gR 12 2 h19 (some a0)).bind fun x27 => (rcv 10 h19 x27).bind fun b29 => (mX9_isFull h19 b29).bind fun r28 => (if r28 = 0 then mX11_row_b93 h19 a0 (some a0) 0 else mX11_row_b93 h19 a0 (some a0) 3)))
set_option maxRecDepth 100000 in
set_option maxHeartbeats 4000000 in
theorem c_X11_row (l : Launch) (G : Env0) (h : MHp) (a0 : Nat) (a1 : Int32) (a2 : Int32) (a3 : Int32) (a4 : Int32) (a5 : Int32) (a6 : Int32) (res : Int32 × MHp) (hh : mX11_row h a0 a1 a2 a3 a4 a5 a6 = some res) : MG l yX11_row cX11_row 7 (some .int) 4 86 0 0 G h [.ref a0, .int a1, .int a2, .int a3, .int a4, .int a5, .int a6] (some (.int res.1)) (res.2) := by
  refine MG_of (own := RX11) (plainFor_of_name (by decide)) rfl (Nat.le_of_ble_eq_true rfl) ?_
  intro p e s m args below meth c Q ls hQ C X hin hm hs hl hr
  have hl : lv_has ls 7 [(0, va_rf (some a0)), (1, .int a1), (2, .int a2), (3, .int a3), (4, .int a4), (5, .int a5), (6, .int a6)] := hl
  have B93 : ∀ (h : MHp) (H : Heap) (locs : List Loc) (ls : Array Slot) (a0 : Nat) (t0 : Option Nat) (t1 : Int32) , mHp (gD G) (gC G) (gB G) h H → va_S (fun q => gB G ≤ q) s.heap H locs → lv_has ls 7 [(0, va_rf (some a0))] → mX11_row_b93 h a0 t0 t1 = some res → W p l e ({ frames := 4, cells := 0, slots := 0, locals := 86 }) s m args below meth c H locs 0 0 Q (F0 m 93 ls [.int t1, va_rf t0]) := by
    intro h H locs ls a0 t0 t1 hm hs hl hh
    unfold mX11_row_b93 at hh
    refine r_putI C hm hs flX11_118 (Or.inl fm_12_15) dX11_row_93 hh (fun h1 H locs _ hh hm hs => ?_)
    refine r_aload_n C.1 C.2.1 dX11_row_96 rfl (lv_at hl 0 rfl) ?_
    refine r_getI C hm flX11_118 dX11_row_97 hh (fun x2 _ hh => ?_)
    refine lv_if_ne (tgt := 117) C.1 C.2.1 dX11_row_100 (by decide) (fun c7 => ?_) (fun c7 => ?_)
    · rw [if_neg c7] at hh
      refine lv_iconst (v := (-1)) C.1 C.2.1 dX11_row_117 (by decide) ?_
      exact r_iretW hQ C hr hm hs hh dX11_row_118
    · rw [if_pos c7] at hh
      refine r_aload_n C.1 C.2.1 dX11_row_103 rfl (lv_at hl 0 rfl) ?_
      refine r_getR C hm flX11_34 dX11_row_104 hh (fun x3 _ hh => ?_)
      refine r_aload_n C.1 C.2.1 dX11_row_107 rfl (lv_at hl 0 rfl) ?_
      refine r_getR C hm flX11_45 dX11_row_108 hh (fun x4 _ hh => ?_)
      refine r_cV C X hm hs mlX11_181 mvX11_181 hh (vv := fun r => some (.int r.1)) (hp := fun r => r.2) (fun b r hg => c_X9_add l G h1 b _ r hg) rfl rfl (Nat.le_of_ble_eq_true rfl) (Nat.le_of_ble_eq_true rfl) (Nat.le_of_ble_eq_true rfl) hl.1 dX11_row_111 (fun b6 r5 H locs hgr5 hh hm hs => ?_)
      refine W.eq (g2 := F0 m 114 ls [.int r5.1]) rfl ?_
      refine lv_goto (tgt := 118) C.1 C.2.1 dX11_row_114 (by decide) ?_
      exact r_iretW hQ C hr hm hs hh dX11_row_118
  unfold mX11_row at hh
  refine r_aload_n C.1 C.2.1 dX11_row_0 rfl (lv_at hl 0 rfl) ?_
  refine r_getR C hm flX11_45 dX11_row_1 hh (fun x8 _ hh => ?_)
  refine lv_iconst (v := 0) C.1 C.2.1 dX11_row_4 (by decide) ?_
  refine lv_iload_n C.1 C.2.1 dX11_row_5 rfl (lv_at hl 1 rfl) ?_
  refine r_ast C hm hs dX11_row_6 hh (fun h9 H locs _ hh hm hs => ?_)
  refine r_aload_n C.1 C.2.1 dX11_row_7 rfl (lv_at hl 0 rfl) ?_
  refine r_getR C hm flX11_45 dX11_row_8 hh (fun x10 _ hh => ?_)
  refine lv_iconst (v := 1) C.1 C.2.1 dX11_row_11 (by decide) ?_
  refine lv_iload_n C.1 C.2.1 dX11_row_12 rfl (lv_at hl 2 rfl) ?_
  refine r_ast C hm hs dX11_row_13 hh (fun h11 H locs _ hh hm hs => ?_)
  refine r_aload_n C.1 C.2.1 dX11_row_14 rfl (lv_at hl 0 rfl) ?_
  refine r_getR C hm flX11_45 dX11_row_15 hh (fun x12 _ hh => ?_)
  refine lv_iconst (v := 2) C.1 C.2.1 dX11_row_18 (by decide) ?_
  refine lv_iload_n C.1 C.2.1 dX11_row_19 rfl (lv_at hl 3 rfl) ?_
  refine r_ast C hm hs dX11_row_20 hh (fun h13 H locs _ hh hm hs => ?_)
  refine r_aload_n C.1 C.2.1 dX11_row_21 rfl (lv_at hl 0 rfl) ?_
  refine r_getR C hm flX11_45 dX11_row_22 hh (fun x14 _ hh => ?_)
  refine lv_iconst (v := 3) C.1 C.2.1 dX11_row_25 (by decide) ?_
  refine lv_iload C.1 C.2.1 dX11_row_26 (lv_at hl 4 rfl) ?_
  refine r_ast C hm hs dX11_row_28 hh (fun h15 H locs _ hh hm hs => ?_)
  refine r_aload_n C.1 C.2.1 dX11_row_29 rfl (lv_at hl 0 rfl) ?_
  refine r_getR C hm flX11_45 dX11_row_30 hh (fun x16 _ hh => ?_)
  refine lv_iconst (v := 4) C.1 C.2.1 dX11_row_33 (by decide) ?_
  refine lv_iload C.1 C.2.1 dX11_row_34 (lv_at hl 5 rfl) ?_
  refine r_ast C hm hs dX11_row_36 hh (fun h17 H locs _ hh hm hs => ?_)
  refine r_aload_n C.1 C.2.1 dX11_row_37 rfl (lv_at hl 0 rfl) ?_
  refine r_getR C hm flX11_45 dX11_row_38 hh (fun x18 _ hh => ?_)
  refine lv_iconst (v := 5) C.1 C.2.1 dX11_row_41 (by decide) ?_
  refine lv_iload C.1 C.2.1 dX11_row_42 (lv_at hl 6 rfl) ?_
  refine r_ast C hm hs dX11_row_44 hh (fun h19 H locs _ hh hm hs => ?_)
  refine r_aload_n C.1 C.2.1 dX11_row_45 rfl (lv_at hl 0 rfl) ?_
  refine r_aload_n C.1 C.2.1 dX11_row_46 rfl (lv_at hl 0 rfl) ?_
  refine r_cV C X hm hs mlX11_151 mvX11_151 hh (vv := fun r => some (.int r)) (hp := fun r => h19) (fun b r hg => c_X11_hasBook l G h19 b  r hg) rfl rfl (by simp [va_cat, vc_i, vc_l, vc_r]) (Nat.le_of_ble_eq_true rfl) (Nat.le_of_ble_eq_true rfl) hl.1 dX11_row_47 (fun b21 r20 H locs hgr20 hh hm hs => ?_)
  refine W.eq (g2 := F0 m 50 ls [.int r20, va_rf (some a0)]) rfl ?_
  refine lv_if_ne (tgt := 57) C.1 C.2.1 dX11_row_50 (by decide) (fun c32 => ?_) (fun c32 => ?_)
  · rw [if_neg c32] at hh
    refine r_aload_n C.1 C.2.1 dX11_row_57 rfl (lv_at hl 0 rfl) ?_
    refine r_getR C hm flX11_34 dX11_row_58 hh (fun x22 _ hh => ?_)
    refine r_getR C hm flX11_125 dX11_row_61 hh (fun x23 _ hh => ?_)
    refine r_aload_n C.1 C.2.1 dX11_row_64 rfl (lv_at hl 0 rfl) ?_
    refine r_getR C hm flX11_45 dX11_row_65 hh (fun x24 _ hh => ?_)
    refine r_cV C X hm hs mlX11_174 mvX11_174 hh (vv := fun r => some (.int r)) (hp := fun r => h19) (fun b r hg => c_X1_allows l G h19 b _ r hg) rfl rfl (by simp [va_cat, vc_i, vc_l, vc_r]) (Nat.le_of_ble_eq_true rfl) (Nat.le_of_ble_eq_true rfl) hl.1 dX11_row_68 (fun b26 r25 H locs hgr25 hh hm hs => ?_)
    refine W.eq (g2 := F0 m 71 ls [.int r25, va_rf (some a0)]) rfl ?_
    refine lv_if_ne (tgt := 78) C.1 C.2.1 dX11_row_71 (by decide) (fun c31 => ?_) (fun c31 => ?_)
    · rw [if_neg c31] at hh
      refine r_aload_n C.1 C.2.1 dX11_row_78 rfl (lv_at hl 0 rfl) ?_
      refine r_getR C hm flX11_34 dX11_row_79 hh (fun x27 _ hh => ?_)
      refine r_cV C X hm hs mlX11_178 mvX11_178 hh (vv := fun r => some (.int r)) (hp := fun r => h19) (fun b r hg => c_X9_isFull l G h19 b  r hg) rfl rfl (by simp [va_cat, vc_i, vc_l, vc_r]) (Nat.le_of_ble_eq_true rfl) (Nat.le_of_ble_eq_true rfl) hl.1 dX11_row_82 (fun b29 r28 H locs hgr28 hh hm hs => ?_)
      refine W.eq (g2 := F0 m 85 ls [.int r28, va_rf (some a0)]) rfl ?_
      refine lv_if_eq (tgt := 92) C.1 C.2.1 dX11_row_85 (by decide) (fun c30 => ?_) (fun c30 => ?_)
      · rw [if_pos c30] at hh
        refine lv_iconst (v := 0) C.1 C.2.1 dX11_row_92 (by decide) ?_
        exact B93 _ _ _ _ _ _ _  hm hs (lv_sub hl [0] rfl) hh
      · rw [if_neg c30] at hh
        refine lv_iconst (v := 3) C.1 C.2.1 dX11_row_88 (by decide) ?_
        refine lv_goto (tgt := 93) C.1 C.2.1 dX11_row_89 (by decide) ?_
        exact B93 _ _ _ _ _ _ _  hm hs (lv_sub hl [0] rfl) hh
    · rw [if_pos c31] at hh
      refine lv_iconst (v := 2) C.1 C.2.1 dX11_row_74 (by decide) ?_
      refine lv_goto (tgt := 93) C.1 C.2.1 dX11_row_75 (by decide) ?_
      exact B93 _ _ _ _ _ _ _  hm hs (lv_sub hl [0] rfl) hh
  · rw [if_pos c32] at hh
    refine lv_iconst (v := 1) C.1 C.2.1 dX11_row_53 (by decide) ?_
    refine lv_goto (tgt := 93) C.1 C.2.1 dX11_row_54 (by decide) ?_
    exact B93 _ _ _ _ _ _ _  hm hs (lv_sub hl [0] rfl) hh
def mX11_weight_b31 (h : MHp) (a0 : Nat) (v1 : Int32) (v2 : Int32) (t0 : Option Nat) (t1 : Int32) : Option (Int32 × MHp) := (pI 12 15 h t0 t1).bind fun h1 => (gI 12 15 h1 (some a0)).bind fun x2 => (if x2 = 0 then (gR 12 2 h1 (some a0)).bind fun x3 => (rcv 10 h1 x3).bind fun b5 => (mX9_has h1 b5 v1).bind fun r4 => (if r4 = 0 then some (0, h1) else (gR 12 2 h1 (some a0)).bind fun x6 => (gR 10 4 h1 x6).bind fun x7 => (pAI 20 h1 x7 v1 v2).bind fun h8 => some (1, h8)) else some (0, h1))
def mX11_weight (h : MHp) (a0 : Nat) (a1 : Int32) (a2 : Int32) : Option (Int32 × MHp) := (gR 12 2 h (some a0)).bind fun x11 => (rcv 10 h x11).bind fun b13 => (mX9_has h b13 a1).bind fun r12 => (if r12 = 0 then mX11_weight_b31 h a0 a1 a2 (some a0) 1 else (mX11_isWithin h a2 1 99).bind fun r14 => (if r14 = 0 then mX11_weight_b31 h a0 a1 a2 (some a0) 2 else mX11_weight_b31 h a0 a1 a2 (some a0) 0))
set_option maxRecDepth 100000 in
set_option maxHeartbeats 4000000 in
theorem c_X11_weight (l : Launch) (G : Env0) (h : MHp) (a0 : Nat) (a1 : Int32) (a2 : Int32) (res : Int32 × MHp) (hh : mX11_weight h a0 a1 a2 = some res) : MG l yX11_weight cX11_weight 3 (some .boolean) 1 22 0 0 G h [.ref a0, .int a1, .int a2] (some (.int res.1)) (res.2) := by
  refine MG_of (own := RX11) (plainFor_of_name (by decide)) rfl (Nat.le_of_ble_eq_true rfl) ?_
  intro p e s m args below meth c Q ls hQ C X hin hm hs hl hr
  have hl : lv_has ls 3 [(0, va_rf (some a0)), (1, .int a1), (2, .int a2)] := hl
  have B31 : ∀ (h : MHp) (H : Heap) (locs : List Loc) (ls : Array Slot) (a0 : Nat) (v1 : Int32) (v2 : Int32) (t0 : Option Nat) (t1 : Int32) , mHp (gD G) (gC G) (gB G) h H → va_S (fun q => gB G ≤ q) s.heap H locs → lv_has ls 3 [(0, va_rf (some a0)), (1, .int v1), (2, .int v2)] → mX11_weight_b31 h a0 v1 v2 t0 t1 = some res → W p l e ({ frames := 1, cells := 0, slots := 0, locals := 22 }) s m args below meth c H locs 0 0 Q (F0 m 31 ls [.int t1, va_rf t0]) := by
    intro h H locs ls a0 v1 v2 t0 t1 hm hs hl hh
    unfold mX11_weight_b31 at hh
    refine r_putI C hm hs flX11_118 (Or.inl fm_12_15) dX11_weight_31 hh (fun h1 H locs _ hh hm hs => ?_)
    refine r_aload_n C.1 C.2.1 dX11_weight_34 rfl (lv_at hl 0 rfl) ?_
    refine r_getI C hm flX11_118 dX11_weight_35 hh (fun x2 _ hh => ?_)
    refine lv_if_ne (tgt := 52) C.1 C.2.1 dX11_weight_38 (by decide) (fun c10 => ?_) (fun c10 => ?_)
    · rw [if_neg c10] at hh
      refine lv_iconst (v := 0) C.1 C.2.1 dX11_weight_52 (by decide) ?_
      exact r_bretW hQ C hr hm hs (by decide) hh dX11_weight_53
    · rw [if_pos c10] at hh
      refine r_aload_n C.1 C.2.1 dX11_weight_41 rfl (lv_at hl 0 rfl) ?_
      refine r_getR C hm flX11_34 dX11_weight_42 hh (fun x3 _ hh => ?_)
      refine lv_iload_n C.1 C.2.1 dX11_weight_45 rfl (lv_at hl 1 rfl) ?_
      refine r_cV C X hm hs mlX11_185 mvX11_185 hh (vv := fun r => some (.int r)) (hp := fun r => h1) (fun b r hg => c_X9_has l G h1 b _ r hg) rfl rfl (Nat.le_of_ble_eq_true rfl) (Nat.le_of_ble_eq_true rfl) (Nat.le_of_ble_eq_true rfl) hl.1 dX11_weight_46 (fun b5 r4 H locs hgr4 hh hm hs => ?_)
      refine W.eq (g2 := F0 m 49 ls [.int r4]) rfl ?_
      refine lv_if_ne (tgt := 54) C.1 C.2.1 dX11_weight_49 (by decide) (fun c9 => ?_) (fun c9 => ?_)
      · rw [if_neg c9] at hh
        refine r_aload_n C.1 C.2.1 dX11_weight_54 rfl (lv_at hl 0 rfl) ?_
        refine r_getR C hm flX11_34 dX11_weight_55 hh (fun x6 _ hh => ?_)
        refine r_getR C hm flX11_192 dX11_weight_58 hh (fun x7 _ hh => ?_)
        refine lv_iload_n C.1 C.2.1 dX11_weight_61 rfl (lv_at hl 1 rfl) ?_
        refine lv_iload_n C.1 C.2.1 dX11_weight_62 rfl (lv_at hl 2 rfl) ?_
        refine r_ast C hm hs dX11_weight_63 hh (fun h8 H locs _ hh hm hs => ?_)
        refine lv_iconst (v := 1) C.1 C.2.1 dX11_weight_64 (by decide) ?_
        exact r_bretW hQ C hr hm hs (by decide) hh dX11_weight_65
      · rw [if_pos c9] at hh
        refine lv_iconst (v := 0) C.1 C.2.1 dX11_weight_52 (by decide) ?_
        exact r_bretW hQ C hr hm hs (by decide) hh dX11_weight_53
  unfold mX11_weight at hh
  refine r_aload_n C.1 C.2.1 dX11_weight_0 rfl (lv_at hl 0 rfl) ?_
  refine r_aload_n C.1 C.2.1 dX11_weight_1 rfl (lv_at hl 0 rfl) ?_
  refine r_getR C hm flX11_34 dX11_weight_2 hh (fun x11 _ hh => ?_)
  refine lv_iload_n C.1 C.2.1 dX11_weight_5 rfl (lv_at hl 1 rfl) ?_
  refine r_cV C X hm hs mlX11_185 mvX11_185 hh (vv := fun r => some (.int r)) (hp := fun r => h) (fun b r hg => c_X9_has l G h b _ r hg) rfl rfl (by simp [va_cat, vc_i, vc_l, vc_r]) (Nat.le_of_ble_eq_true rfl) (Nat.le_of_ble_eq_true rfl) hl.1 dX11_weight_6 (fun b13 r12 H locs hgr12 hh hm hs => ?_)
  refine W.eq (g2 := F0 m 9 ls [.int r12, va_rf (some a0)]) rfl ?_
  refine lv_if_ne (tgt := 16) C.1 C.2.1 dX11_weight_9 (by decide) (fun c16 => ?_) (fun c16 => ?_)
  · rw [if_neg c16] at hh
    refine lv_iload_n C.1 C.2.1 dX11_weight_16 rfl (lv_at hl 2 rfl) ?_
    refine lv_iconst (v := 1) C.1 C.2.1 dX11_weight_17 (by decide) ?_
    refine lv_bipush (v := 99) C.1 C.2.1 dX11_weight_18 (by decide) ?_
    refine r_cS C X hm hs mlX11_188 msX11_188 hh (vv := fun r => some (.int r)) (hp := fun r => h) (fun r hg => c_X11_isWithin l G h _ _ _ r hg) rfl rfl (by simp [va_cat, vc_i, vc_l, vc_r]) (Nat.le_of_ble_eq_true rfl) (Nat.le_of_ble_eq_true rfl) hl.1 dX11_weight_20 (fun r14 H locs hgr14 hh hm hs => ?_)
    refine W.eq (g2 := F0 m 23 ls [.int r14, va_rf (some a0)]) rfl ?_
    refine lv_if_eq (tgt := 30) C.1 C.2.1 dX11_weight_23 (by decide) (fun c15 => ?_) (fun c15 => ?_)
    · rw [if_pos c15] at hh
      refine lv_iconst (v := 2) C.1 C.2.1 dX11_weight_30 (by decide) ?_
      exact B31 _ _ _ _ _ _ _ _ _  hm hs (lv_sub hl [0, 1, 2] rfl) hh
    · rw [if_neg c15] at hh
      refine lv_iconst (v := 0) C.1 C.2.1 dX11_weight_26 (by decide) ?_
      refine lv_goto (tgt := 31) C.1 C.2.1 dX11_weight_27 (by decide) ?_
      exact B31 _ _ _ _ _ _ _ _ _  hm hs (lv_sub hl [0, 1, 2] rfl) hh
  · rw [if_pos c16] at hh
    refine lv_iconst (v := 1) C.1 C.2.1 dX11_weight_12 (by decide) ?_
    refine lv_goto (tgt := 31) C.1 C.2.1 dX11_weight_13 (by decide) ?_
    exact B31 _ _ _ _ _ _ _ _ _  hm hs (lv_sub hl [0, 1, 2] rfl) hh
def mX11_withdraw_b32 (h : MHp) (a0 : Nat) (v1 : Int32) (t0 : Option Nat) (t1 : Int32) : Option (Int32 × MHp) := (pI 12 15 h t0 t1).bind fun h1 => (gI 12 15 h1 (some a0)).bind fun x2 => (if x2 = 0 then (gR 12 2 h1 (some a0)).bind fun x3 => (rcv 10 h1 x3).bind fun b5 => (mX9_has h1 b5 v1).bind fun r4 => (if r4 = 0 then some (0, h1) else (gR 12 2 h1 (some a0)).bind fun x6 => (gR 10 1 h1 x6).bind fun x7 => (gR 12 2 h1 (some a0)).bind fun x8 => (gI 10 7 h1 x8).bind fun x9 => (pAI 20 h1 x7 v1 x9).bind fun h10 => some (1, h10)) else some (0, h1))
def mX11_withdraw (h : MHp) (a0 : Nat) (a1 : Int32) : Option (Int32 × MHp) := (gR 12 2 h (some a0)).bind fun x13 => (rcv 10 h x13).bind fun b15 => (mX9_has h b15 a1).bind fun r14 => (if r14 = 0 then mX11_withdraw_b32 h a0 a1 (some a0) 1 else (gR 12 2 h (some a0)).bind fun x16 => (rcv 10 h x16).bind fun b18 => (mX9_isWithdrawn h b18 a1).bind fun r17 => (if r17 = 0 then mX11_withdraw_b32 h a0 a1 (some a0) 0 else mX11_withdraw_b32 h a0 a1 (some a0) 5))
set_option maxRecDepth 100000 in
set_option maxHeartbeats 4000000 in
theorem c_X11_withdraw (l : Launch) (G : Env0) (h : MHp) (a0 : Nat) (a1 : Int32) (res : Int32 × MHp) (hh : mX11_withdraw h a0 a1 = some res) : MG l yX11_withdraw cX11_withdraw 2 (some .boolean) 2 42 0 0 G h [.ref a0, .int a1] (some (.int res.1)) (res.2) := by
  refine MG_of (own := RX11) (plainFor_of_name (by decide)) rfl (Nat.le_of_ble_eq_true rfl) ?_
  intro p e s m args below meth c Q ls hQ C X hin hm hs hl hr
  have hl : lv_has ls 2 [(0, va_rf (some a0)), (1, .int a1)] := hl
  have B32 : ∀ (h : MHp) (H : Heap) (locs : List Loc) (ls : Array Slot) (a0 : Nat) (v1 : Int32) (t0 : Option Nat) (t1 : Int32) , mHp (gD G) (gC G) (gB G) h H → va_S (fun q => gB G ≤ q) s.heap H locs → lv_has ls 2 [(0, va_rf (some a0)), (1, .int v1)] → mX11_withdraw_b32 h a0 v1 t0 t1 = some res → W p l e ({ frames := 2, cells := 0, slots := 0, locals := 42 }) s m args below meth c H locs 0 0 Q (F0 m 32 ls [.int t1, va_rf t0]) := by
    intro h H locs ls a0 v1 t0 t1 hm hs hl hh
    unfold mX11_withdraw_b32 at hh
    refine r_putI C hm hs flX11_118 (Or.inl fm_12_15) dX11_withdraw_32 hh (fun h1 H locs _ hh hm hs => ?_)
    refine r_aload_n C.1 C.2.1 dX11_withdraw_35 rfl (lv_at hl 0 rfl) ?_
    refine r_getI C hm flX11_118 dX11_withdraw_36 hh (fun x2 _ hh => ?_)
    refine lv_if_ne (tgt := 53) C.1 C.2.1 dX11_withdraw_39 (by decide) (fun c12 => ?_) (fun c12 => ?_)
    · rw [if_neg c12] at hh
      refine lv_iconst (v := 0) C.1 C.2.1 dX11_withdraw_53 (by decide) ?_
      exact r_bretW hQ C hr hm hs (by decide) hh dX11_withdraw_54
    · rw [if_pos c12] at hh
      refine r_aload_n C.1 C.2.1 dX11_withdraw_42 rfl (lv_at hl 0 rfl) ?_
      refine r_getR C hm flX11_34 dX11_withdraw_43 hh (fun x3 _ hh => ?_)
      refine lv_iload_n C.1 C.2.1 dX11_withdraw_46 rfl (lv_at hl 1 rfl) ?_
      refine r_cV C X hm hs mlX11_185 mvX11_185 hh (vv := fun r => some (.int r)) (hp := fun r => h1) (fun b r hg => c_X9_has l G h1 b _ r hg) rfl rfl (Nat.le_of_ble_eq_true rfl) (Nat.le_of_ble_eq_true rfl) (Nat.le_of_ble_eq_true rfl) hl.1 dX11_withdraw_47 (fun b5 r4 H locs hgr4 hh hm hs => ?_)
      refine W.eq (g2 := F0 m 50 ls [.int r4]) rfl ?_
      refine lv_if_ne (tgt := 55) C.1 C.2.1 dX11_withdraw_50 (by decide) (fun c11 => ?_) (fun c11 => ?_)
      · rw [if_neg c11] at hh
        refine r_aload_n C.1 C.2.1 dX11_withdraw_55 rfl (lv_at hl 0 rfl) ?_
        refine r_getR C hm flX11_34 dX11_withdraw_56 hh (fun x6 _ hh => ?_)
        refine r_getR C hm flX11_198 dX11_withdraw_59 hh (fun x7 _ hh => ?_)
        refine lv_iload_n C.1 C.2.1 dX11_withdraw_62 rfl (lv_at hl 1 rfl) ?_
        refine r_aload_n C.1 C.2.1 dX11_withdraw_63 rfl (lv_at hl 0 rfl) ?_
        refine r_getR C hm flX11_34 dX11_withdraw_64 hh (fun x8 _ hh => ?_)
        refine r_getI C hm flX11_201 dX11_withdraw_67 hh (fun x9 _ hh => ?_)
        refine r_ast C hm hs dX11_withdraw_70 hh (fun h10 H locs _ hh hm hs => ?_)
        refine lv_iconst (v := 1) C.1 C.2.1 dX11_withdraw_71 (by decide) ?_
        exact r_bretW hQ C hr hm hs (by decide) hh dX11_withdraw_72
      · rw [if_pos c11] at hh
        refine lv_iconst (v := 0) C.1 C.2.1 dX11_withdraw_53 (by decide) ?_
        exact r_bretW hQ C hr hm hs (by decide) hh dX11_withdraw_54
  unfold mX11_withdraw at hh
  refine r_aload_n C.1 C.2.1 dX11_withdraw_0 rfl (lv_at hl 0 rfl) ?_
  refine r_aload_n C.1 C.2.1 dX11_withdraw_1 rfl (lv_at hl 0 rfl) ?_
  refine r_getR C hm flX11_34 dX11_withdraw_2 hh (fun x13 _ hh => ?_)
  refine lv_iload_n C.1 C.2.1 dX11_withdraw_5 rfl (lv_at hl 1 rfl) ?_
  refine r_cV C X hm hs mlX11_185 mvX11_185 hh (vv := fun r => some (.int r)) (hp := fun r => h) (fun b r hg => c_X9_has l G h b _ r hg) rfl rfl (by simp [va_cat, vc_i, vc_l, vc_r]) (Nat.le_of_ble_eq_true rfl) (Nat.le_of_ble_eq_true rfl) hl.1 dX11_withdraw_6 (fun b15 r14 H locs hgr14 hh hm hs => ?_)
  refine W.eq (g2 := F0 m 9 ls [.int r14, va_rf (some a0)]) rfl ?_
  refine lv_if_ne (tgt := 16) C.1 C.2.1 dX11_withdraw_9 (by decide) (fun c20 => ?_) (fun c20 => ?_)
  · rw [if_neg c20] at hh
    refine r_aload_n C.1 C.2.1 dX11_withdraw_16 rfl (lv_at hl 0 rfl) ?_
    refine r_getR C hm flX11_34 dX11_withdraw_17 hh (fun x16 _ hh => ?_)
    refine lv_iload_n C.1 C.2.1 dX11_withdraw_20 rfl (lv_at hl 1 rfl) ?_
    refine r_cV C X hm hs mlX11_195 mvX11_195 hh (vv := fun r => some (.int r)) (hp := fun r => h) (fun b r hg => c_X9_isWithdrawn l G h b _ r hg) rfl rfl (by simp [va_cat, vc_i, vc_l, vc_r]) (Nat.le_of_ble_eq_true rfl) (Nat.le_of_ble_eq_true rfl) hl.1 dX11_withdraw_21 (fun b18 r17 H locs hgr17 hh hm hs => ?_)
    refine W.eq (g2 := F0 m 24 ls [.int r17, va_rf (some a0)]) rfl ?_
    refine lv_if_eq (tgt := 31) C.1 C.2.1 dX11_withdraw_24 (by decide) (fun c19 => ?_) (fun c19 => ?_)
    · rw [if_pos c19] at hh
      refine lv_iconst (v := 0) C.1 C.2.1 dX11_withdraw_31 (by decide) ?_
      exact B32 _ _ _ _ _ _ _ _  hm hs (lv_sub hl [0, 1] rfl) hh
    · rw [if_neg c19] at hh
      refine lv_iconst (v := 5) C.1 C.2.1 dX11_withdraw_27 (by decide) ?_
      refine lv_goto (tgt := 32) C.1 C.2.1 dX11_withdraw_28 (by decide) ?_
      exact B32 _ _ _ _ _ _ _ _  hm hs (lv_sub hl [0, 1] rfl) hh
  · rw [if_pos c20] at hh
    refine lv_iconst (v := 1) C.1 C.2.1 dX11_withdraw_12 (by decide) ?_
    refine lv_goto (tgt := 32) C.1 C.2.1 dX11_withdraw_13 (by decide) ?_
    exact B32 _ _ _ _ _ _ _ _  hm hs (lv_sub hl [0, 1] rfl) hh
def mX11_value (h : MHp) (a0 : Nat) (a1 : Int32) (a2 : Int32) (a3 : Int32) (a4 : Int32) : Option (Int32) := (gR 12 2 h (some a0)).bind fun x1 => (rcv 10 h x1).bind fun b3 => (mX9_isDay h b3 a3).bind fun r2 => (if r2 = 0 then some (-2) else (gR 12 2 h (some a0)).bind fun x4 => (rcv 10 h x4).bind fun b6 => (mX9_valueOn h b6 a1 a2 a3 a4).bind fun r5 => some r5)
set_option maxRecDepth 100000 in
set_option maxHeartbeats 4000000 in
theorem c_X11_value (l : Launch) (G : Env0) (h : MHp) (a0 : Nat) (a1 : Int32) (a2 : Int32) (a3 : Int32) (a4 : Int32) (res : Int32) (hh : mX11_value h a0 a1 a2 a3 a4 = some res) : MG l yX11_value cX11_value 5 (some .int) 2 48 0 0 G h [.ref a0, .int a1, .int a2, .int a3, .int a4] (some (.int res)) (h) := by
  refine MG_of (own := RX11) (plainFor_of_name (by decide)) rfl (Nat.le_of_ble_eq_true rfl) ?_
  intro p e s m args below meth c Q ls hQ C X hin hm hs hl hr
  have hl : lv_has ls 5 [(0, va_rf (some a0)), (1, .int a1), (2, .int a2), (3, .int a3), (4, .int a4)] := hl
  unfold mX11_value at hh
  refine r_aload_n C.1 C.2.1 dX11_value_0 rfl (lv_at hl 0 rfl) ?_
  refine r_getR C hm flX11_34 dX11_value_1 hh (fun x1 _ hh => ?_)
  refine lv_iload_n C.1 C.2.1 dX11_value_4 rfl (lv_at hl 3 rfl) ?_
  refine r_cV C X hm hs mlX11_204 mvX11_204 hh (vv := fun r => some (.int r)) (hp := fun r => h) (fun b r hg => c_X9_isDay l G h b _ r hg) rfl rfl (Nat.le_of_ble_eq_true rfl) (Nat.le_of_ble_eq_true rfl) (Nat.le_of_ble_eq_true rfl) hl.1 dX11_value_5 (fun b3 r2 H locs hgr2 hh hm hs => ?_)
  refine W.eq (g2 := F0 m 8 ls [.int r2]) rfl ?_
  refine lv_if_eq (tgt := 26) C.1 C.2.1 dX11_value_8 (by decide) (fun c7 => ?_) (fun c7 => ?_)
  · rw [if_pos c7] at hh
    refine lv_bipush (v := (-2)) C.1 C.2.1 dX11_value_26 (by decide) ?_
    exact r_iretP hQ C hr hm hs hh dX11_value_28
  · rw [if_neg c7] at hh
    refine r_aload_n C.1 C.2.1 dX11_value_11 rfl (lv_at hl 0 rfl) ?_
    refine r_getR C hm flX11_34 dX11_value_12 hh (fun x4 _ hh => ?_)
    refine lv_iload_n C.1 C.2.1 dX11_value_15 rfl (lv_at hl 1 rfl) ?_
    refine lv_iload_n C.1 C.2.1 dX11_value_16 rfl (lv_at hl 2 rfl) ?_
    refine lv_iload_n C.1 C.2.1 dX11_value_17 rfl (lv_at hl 3 rfl) ?_
    refine lv_iload C.1 C.2.1 dX11_value_18 (lv_at hl 4 rfl) ?_
    refine r_cV C X hm hs mlX11_207 mvX11_207 hh (vv := fun r => some (.int r)) (hp := fun r => h) (fun b r hg => c_X9_valueOn l G h b _ _ _ _ r hg) rfl rfl (Nat.le_of_ble_eq_true rfl) (Nat.le_of_ble_eq_true rfl) (Nat.le_of_ble_eq_true rfl) hl.1 dX11_value_20 (fun b6 r5 H locs hgr5 hh hm hs => ?_)
    refine W.eq (g2 := F0 m 23 ls [.int r5]) rfl ?_
    refine lv_goto (tgt := 28) C.1 C.2.1 dX11_value_23 (by decide) ?_
    exact r_iretP hQ C hr hm hs hh dX11_value_28
def mX11_of (h : MHp) (a0 : Nat) (a1 : Int32) (a2 : Int32) : Option (Int32 × MHp) := (gR 12 2 h (some a0)).bind fun x1 => (rcv 10 h x1).bind fun b3 => (mX9_has h b3 a1).bind fun r2 => (if r2 = 0 then some ((-1), h) else (if a2 = 0 then (gR 12 2 h (some a0)).bind fun x5 => (gR 12 2 h (some a0)).bind fun x6 => (gI 10 7 h x6).bind fun x7 => (rcv 10 h x5).bind fun b9 => (mX9_isThere h b9 a1 x7).bind fun r8 => (if r8 = 0 then some (0, h) else some (1, h)) else (if a2 = 1 then (gR 12 2 h (some a0)).bind fun x11 => (rcv 10 h x11).bind fun b13 => (mX9_ruleThatHolds h b13 a1).bind fun r12 => (if r12.1 = (-2) then some (0, r12.2) else some (1, r12.2)) else (if a2 = 2 then (gR 12 2 h (some a0)).bind fun x15 => (rcv 10 h x15).bind fun b17 => (mX9_countGaps h b17 a1).bind fun r16 => some (r16.1, r16.2) else (if a2 = 3 then (gR 12 2 h (some a0)).bind fun x18 => (gR 10 2 h x18).bind fun x19 => (gAI 20 h x19 a1).bind fun x20 => some (x20, h) else (if a2 = 4 then (gR 12 2 h (some a0)).bind fun x21 => (gR 10 3 h x21).bind fun x22 => (gAI 20 h x22 a1).bind fun x23 => some (x23, h) else (if a2 = 5 then (gR 12 2 h (some a0)).bind fun x24 => (gR 10 4 h x24).bind fun x25 => (gAI 20 h x25 a1).bind fun x26 => some (x26, h) else (if a2 = 6 then (gR 12 2 h (some a0)).bind fun x27 => (rcv 10 h x27).bind fun b29 => (mX9_ruleThatHolds h b29 a1).bind fun r28 => some (r28.1, r28.2) else some ((-1), h)))))))))
set_option maxRecDepth 100000 in
set_option maxHeartbeats 4000000 in
theorem c_X11_of (l : Launch) (G : Env0) (h : MHp) (a0 : Nat) (a1 : Int32) (a2 : Int32) (res : Int32 × MHp) (hh : mX11_of h a0 a1 a2 = some res) : MG l yX11_of cX11_of 3 (some .int) 5 115 0 0 G h [.ref a0, .int a1, .int a2] (some (.int res.1)) (res.2) := by
  refine MG_of (own := RX11) (plainFor_of_name (by decide)) rfl (Nat.le_of_ble_eq_true rfl) ?_
  intro p e s m args below meth c Q ls hQ C X hin hm hs hl hr
  have hl : lv_has ls 3 [(0, va_rf (some a0)), (1, .int a1), (2, .int a2)] := hl
  unfold mX11_of at hh
  refine r_aload_n C.1 C.2.1 dX11_of_0 rfl (lv_at hl 0 rfl) ?_
  refine r_getR C hm flX11_34 dX11_of_1 hh (fun x1 _ hh => ?_)
  refine lv_iload_n C.1 C.2.1 dX11_of_4 rfl (lv_at hl 1 rfl) ?_
  refine r_cV C X hm hs mlX11_185 mvX11_185 hh (vv := fun r => some (.int r)) (hp := fun r => h) (fun b r hg => c_X9_has l G h b _ r hg) rfl rfl (Nat.le_of_ble_eq_true rfl) (Nat.le_of_ble_eq_true rfl) (Nat.le_of_ble_eq_true rfl) hl.1 dX11_of_5 (fun b3 r2 H locs hgr2 hh hm hs => ?_)
  refine W.eq (g2 := F0 m 8 ls [.int r2]) rfl ?_
  refine lv_if_ne (tgt := 13) C.1 C.2.1 dX11_of_8 (by decide) (fun c30 => ?_) (fun c30 => ?_)
  · rw [if_neg c30] at hh
    refine lv_iload_n C.1 C.2.1 dX11_of_13 rfl (lv_at hl 2 rfl) ?_
    by_cases c4_0 : a2 = 0
    · rw [if_pos c4_0] at hh
      refine r_tsw (tgt := 56) C dX11_of_14 c4_0 (by decide) (by decide) rfl (by decide) ?_
      refine r_aload_n C.1 C.2.1 dX11_of_56 rfl (lv_at hl 0 rfl) ?_
      refine r_getR C hm flX11_34 dX11_of_57 hh (fun x5 _ hh => ?_)
      refine lv_iload_n C.1 C.2.1 dX11_of_60 rfl (lv_at hl 1 rfl) ?_
      refine r_aload_n C.1 C.2.1 dX11_of_61 rfl (lv_at hl 0 rfl) ?_
      refine r_getR C hm flX11_34 dX11_of_62 hh (fun x6 _ hh => ?_)
      refine r_getI C hm flX11_201 dX11_of_65 hh (fun x7 _ hh => ?_)
      refine r_cV C X hm hs mlX11_211 mvX11_211 hh (vv := fun r => some (.int r)) (hp := fun r => h) (fun b r hg => c_X9_isThere l G h b _ _ r hg) rfl rfl (Nat.le_of_ble_eq_true rfl) (Nat.le_of_ble_eq_true rfl) (Nat.le_of_ble_eq_true rfl) hl.1 dX11_of_68 (fun b9 r8 H locs hgr8 hh hm hs => ?_)
      refine W.eq (g2 := F0 m 71 ls [.int r8]) rfl ?_
      refine lv_if_eq (tgt := 78) C.1 C.2.1 dX11_of_71 (by decide) (fun c10 => ?_) (fun c10 => ?_)
      · rw [if_pos c10] at hh
        refine lv_iconst (v := 0) C.1 C.2.1 dX11_of_78 (by decide) ?_
        exact r_iretW hQ C hr hm hs hh dX11_of_79
      · rw [if_neg c10] at hh
        refine lv_iconst (v := 1) C.1 C.2.1 dX11_of_74 (by decide) ?_
        refine lv_goto (tgt := 79) C.1 C.2.1 dX11_of_75 (by decide) ?_
        exact r_iretW hQ C hr hm hs hh dX11_of_79
    · rw [if_neg c4_0] at hh
      by_cases c4_1 : a2 = 1
      · rw [if_pos c4_1] at hh
        refine r_tsw (tgt := 80) C dX11_of_14 c4_1 (by decide) (by decide) rfl (by decide) ?_
        refine r_aload_n C.1 C.2.1 dX11_of_80 rfl (lv_at hl 0 rfl) ?_
        refine r_getR C hm flX11_34 dX11_of_81 hh (fun x11 _ hh => ?_)
        refine lv_iload_n C.1 C.2.1 dX11_of_84 rfl (lv_at hl 1 rfl) ?_
        refine r_cV C X hm hs mlX11_215 mvX11_215 hh (vv := fun r => some (.int r.1)) (hp := fun r => r.2) (fun b r hg => c_X9_ruleThatHolds l G h b _ r hg) rfl rfl (Nat.le_of_ble_eq_true rfl) (Nat.le_of_ble_eq_true rfl) (Nat.le_of_ble_eq_true rfl) hl.1 dX11_of_85 (fun b13 r12 H locs hgr12 hh hm hs => ?_)
        refine W.eq (g2 := F0 m 88 ls [.int r12.1]) rfl ?_
        refine lv_bipush (v := (-2)) C.1 C.2.1 dX11_of_88 (by decide) ?_
        refine lv_icmp_ne (tgt := 97) C.1 C.2.1 dX11_of_90 (by decide) (fun c14 => ?_) (fun c14 => ?_)
        · rw [if_neg c14] at hh
          refine lv_iconst (v := 1) C.1 C.2.1 dX11_of_97 (by decide) ?_
          exact r_iretW hQ C hr hm hs hh dX11_of_98
        · rw [if_pos c14] at hh
          refine lv_iconst (v := 0) C.1 C.2.1 dX11_of_93 (by decide) ?_
          refine lv_goto (tgt := 98) C.1 C.2.1 dX11_of_94 (by decide) ?_
          exact r_iretW hQ C hr hm hs hh dX11_of_98
      · rw [if_neg c4_1] at hh
        by_cases c4_2 : a2 = 2
        · rw [if_pos c4_2] at hh
          refine r_tsw (tgt := 99) C dX11_of_14 c4_2 (by decide) (by decide) rfl (by decide) ?_
          refine r_aload_n C.1 C.2.1 dX11_of_99 rfl (lv_at hl 0 rfl) ?_
          refine r_getR C hm flX11_34 dX11_of_100 hh (fun x15 _ hh => ?_)
          refine lv_iload_n C.1 C.2.1 dX11_of_103 rfl (lv_at hl 1 rfl) ?_
          refine r_cV C X hm hs mlX11_219 mvX11_219 hh (vv := fun r => some (.int r.1)) (hp := fun r => r.2) (fun b r hg => c_X9_countGaps l G h b _ r hg) rfl rfl (Nat.le_of_ble_eq_true rfl) (Nat.le_of_ble_eq_true rfl) (Nat.le_of_ble_eq_true rfl) hl.1 dX11_of_104 (fun b17 r16 H locs hgr16 hh hm hs => ?_)
          refine W.eq (g2 := F0 m 107 ls [.int r16.1]) rfl ?_
          exact r_iretW hQ C hr hm hs hh dX11_of_107
        · rw [if_neg c4_2] at hh
          by_cases c4_3 : a2 = 3
          · rw [if_pos c4_3] at hh
            refine r_tsw (tgt := 108) C dX11_of_14 c4_3 (by decide) (by decide) rfl (by decide) ?_
            refine r_aload_n C.1 C.2.1 dX11_of_108 rfl (lv_at hl 0 rfl) ?_
            refine r_getR C hm flX11_34 dX11_of_109 hh (fun x18 _ hh => ?_)
            refine r_getR C hm flX11_222 dX11_of_112 hh (fun x19 _ hh => ?_)
            refine lv_iload_n C.1 C.2.1 dX11_of_115 rfl (lv_at hl 1 rfl) ?_
            refine r_ald C hm dX11_of_116 hh (fun x20 _ hh => ?_)
            exact r_iretW hQ C hr hm hs hh dX11_of_117
          · rw [if_neg c4_3] at hh
            by_cases c4_4 : a2 = 4
            · rw [if_pos c4_4] at hh
              refine r_tsw (tgt := 118) C dX11_of_14 c4_4 (by decide) (by decide) rfl (by decide) ?_
              refine r_aload_n C.1 C.2.1 dX11_of_118 rfl (lv_at hl 0 rfl) ?_
              refine r_getR C hm flX11_34 dX11_of_119 hh (fun x21 _ hh => ?_)
              refine r_getR C hm flX11_225 dX11_of_122 hh (fun x22 _ hh => ?_)
              refine lv_iload_n C.1 C.2.1 dX11_of_125 rfl (lv_at hl 1 rfl) ?_
              refine r_ald C hm dX11_of_126 hh (fun x23 _ hh => ?_)
              exact r_iretW hQ C hr hm hs hh dX11_of_127
            · rw [if_neg c4_4] at hh
              by_cases c4_5 : a2 = 5
              · rw [if_pos c4_5] at hh
                refine r_tsw (tgt := 128) C dX11_of_14 c4_5 (by decide) (by decide) rfl (by decide) ?_
                refine r_aload_n C.1 C.2.1 dX11_of_128 rfl (lv_at hl 0 rfl) ?_
                refine r_getR C hm flX11_34 dX11_of_129 hh (fun x24 _ hh => ?_)
                refine r_getR C hm flX11_192 dX11_of_132 hh (fun x25 _ hh => ?_)
                refine lv_iload_n C.1 C.2.1 dX11_of_135 rfl (lv_at hl 1 rfl) ?_
                refine r_ald C hm dX11_of_136 hh (fun x26 _ hh => ?_)
                exact r_iretW hQ C hr hm hs hh dX11_of_137
              · rw [if_neg c4_5] at hh
                by_cases c4_6 : a2 = 6
                · rw [if_pos c4_6] at hh
                  refine r_tsw (tgt := 138) C dX11_of_14 c4_6 (by decide) (by decide) rfl (by decide) ?_
                  refine r_aload_n C.1 C.2.1 dX11_of_138 rfl (lv_at hl 0 rfl) ?_
                  refine r_getR C hm flX11_34 dX11_of_139 hh (fun x27 _ hh => ?_)
                  refine lv_iload_n C.1 C.2.1 dX11_of_142 rfl (lv_at hl 1 rfl) ?_
                  refine r_cV C X hm hs mlX11_215 mvX11_215 hh (vv := fun r => some (.int r.1)) (hp := fun r => r.2) (fun b r hg => c_X9_ruleThatHolds l G h b _ r hg) rfl rfl (Nat.le_of_ble_eq_true rfl) (Nat.le_of_ble_eq_true rfl) (Nat.le_of_ble_eq_true rfl) hl.1 dX11_of_143 (fun b29 r28 H locs hgr28 hh hm hs => ?_)
                  refine W.eq (g2 := F0 m 146 ls [.int r28.1]) rfl ?_
                  exact r_iretW hQ C hr hm hs hh dX11_of_146
                · rw [if_neg c4_6] at hh
                  refine lv_tableOut (tgt := 147) C.1 C.2.1 dX11_of_14 (tsw_out7 c4_0 c4_1 c4_2 c4_3 c4_4 c4_5 c4_6) (by decide) ?_
                  refine lv_iconst (v := (-1)) C.1 C.2.1 dX11_of_147 (by decide) ?_
                  exact r_iretW hQ C hr hm hs hh dX11_of_148
  · rw [if_pos c30] at hh
    refine lv_iconst (v := (-1)) C.1 C.2.1 dX11_of_11 (by decide) ?_
    exact r_iretW hQ C hr hm hs hh dX11_of_12
def mX11_mend_b32 (h : MHp) (a0 : Nat) (v1 : Int32) (t0 : Option Nat) (t1 : Int32) : Option (Int32 × MHp) := (pI 12 15 h t0 t1).bind fun h1 => (gI 12 15 h1 (some a0)).bind fun x2 => (if x2 = 0 then (gR 12 6 h1 (some a0)).bind fun x3 => (rcv 6 h1 x3).bind fun b5 => (mX5_mendRow h1 b5 v1).bind fun r4 => (if r4.1 = 0 then (pI 12 15 r4.2 (some a0) 6).bind fun h6 => some ((-1), h6) else some (r4.1, r4.2)) else some ((-1), h1))
def mX11_mend (h : MHp) (a0 : Nat) (a1 : Int32) : Option (Int32 × MHp) := (gR 12 2 h (some a0)).bind fun x9 => (rcv 10 h x9).bind fun b11 => (mX9_has h b11 a1).bind fun r10 => (if r10 = 0 then mX11_mend_b32 h a0 a1 (some a0) 1 else (gR 12 2 h (some a0)).bind fun x12 => (rcv 10 h x12).bind fun b14 => (mX9_canBeMended h b14 a1).bind fun r13 => (if r13.1 = 0 then mX11_mend_b32 r13.2 a0 a1 (some a0) 5 else mX11_mend_b32 r13.2 a0 a1 (some a0) 0))
set_option maxRecDepth 100000 in
set_option maxHeartbeats 4000000 in
theorem c_X11_mend (l : Launch) (G : Env0) (h : MHp) (a0 : Nat) (a1 : Int32) (res : Int32 × MHp) (hh : mX11_mend h a0 a1 = some res) : MG l yX11_mend cX11_mend 3 (some .int) 6 145 0 0 G h [.ref a0, .int a1] (some (.int res.1)) (res.2) := by
  refine MG_of (own := RX11) (plainFor_of_name (by decide)) rfl (Nat.le_of_ble_eq_true rfl) ?_
  intro p e s m args below meth c Q ls hQ C X hin hm hs hl hr
  have hl : lv_has ls 3 [(0, va_rf (some a0)), (1, .int a1)] := hl
  have B32 : ∀ (h : MHp) (H : Heap) (locs : List Loc) (ls : Array Slot) (a0 : Nat) (v1 : Int32) (t0 : Option Nat) (t1 : Int32) , mHp (gD G) (gC G) (gB G) h H → va_S (fun q => gB G ≤ q) s.heap H locs → lv_has ls 3 [(0, va_rf (some a0)), (1, .int v1)] → mX11_mend_b32 h a0 v1 t0 t1 = some res → W p l e ({ frames := 6, cells := 0, slots := 0, locals := 145 }) s m args below meth c H locs 0 0 Q (F0 m 32 ls [.int t1, va_rf t0]) := by
    intro h H locs ls a0 v1 t0 t1 hm hs hl hh
    unfold mX11_mend_b32 at hh
    refine r_putI C hm hs flX11_118 (Or.inl fm_12_15) dX11_mend_32 hh (fun h1 H locs _ hh hm hs => ?_)
    refine r_aload_n C.1 C.2.1 dX11_mend_35 rfl (lv_at hl 0 rfl) ?_
    refine r_getI C hm flX11_118 dX11_mend_36 hh (fun x2 _ hh => ?_)
    refine lv_if_eq (tgt := 44) C.1 C.2.1 dX11_mend_39 (by decide) (fun c8 => ?_) (fun c8 => ?_)
    · rw [if_pos c8] at hh
      refine r_aload_n C.1 C.2.1 dX11_mend_44 rfl (lv_at hl 0 rfl) ?_
      refine r_getR C hm flX11_65 dX11_mend_45 hh (fun x3 _ hh => ?_)
      refine lv_iload_n C.1 C.2.1 dX11_mend_48 rfl (lv_at hl 1 rfl) ?_
      refine r_cV C X hm hs mlX11_231 mvX11_231 hh (vv := fun r => some (.int r.1)) (hp := fun r => r.2) (fun b r hg => c_X5_mendRow l G h1 b _ r hg) rfl rfl (Nat.le_of_ble_eq_true rfl) (Nat.le_of_ble_eq_true rfl) (Nat.le_of_ble_eq_true rfl) hl.1 dX11_mend_49 (fun b5 r4 H locs hgr4 hh hm hs => ?_)
      refine W.eq (g2 := F0 m 52 ls [.int r4.1]) rfl ?_
      refine lv_istore_n (i := 2) (lv' := [(2, .int r4.1), (0, va_rf (some a0)), (1, .int v1)]) C.1 C.2.1 dX11_mend_52 rfl hl (by decide) rfl (fun ls hl => ?_)
      refine lv_iload_n C.1 C.2.1 dX11_mend_53 rfl (lv_at hl 0 rfl) ?_
      refine lv_if_ne (tgt := 65) C.1 C.2.1 dX11_mend_54 (by decide) (fun c7 => ?_) (fun c7 => ?_)
      · rw [if_neg c7] at hh
        refine lv_iload_n C.1 C.2.1 dX11_mend_65 rfl (lv_at hl 0 rfl) ?_
        exact r_iretW hQ C hr hm hs hh dX11_mend_66
      · rw [if_pos c7] at hh
        refine r_aload_n C.1 C.2.1 dX11_mend_57 rfl (lv_at hl 1 rfl) ?_
        refine lv_bipush (v := 6) C.1 C.2.1 dX11_mend_58 (by decide) ?_
        refine r_putI C hm hs flX11_118 (Or.inl fm_12_15) dX11_mend_60 hh (fun h6 H locs _ hh hm hs => ?_)
        refine lv_iconst (v := (-1)) C.1 C.2.1 dX11_mend_63 (by decide) ?_
        exact r_iretW hQ C hr hm hs hh dX11_mend_64
    · rw [if_neg c8] at hh
      refine lv_iconst (v := (-1)) C.1 C.2.1 dX11_mend_42 (by decide) ?_
      exact r_iretW hQ C hr hm hs hh dX11_mend_43
  unfold mX11_mend at hh
  refine r_aload_n C.1 C.2.1 dX11_mend_0 rfl (lv_at hl 0 rfl) ?_
  refine r_aload_n C.1 C.2.1 dX11_mend_1 rfl (lv_at hl 0 rfl) ?_
  refine r_getR C hm flX11_34 dX11_mend_2 hh (fun x9 _ hh => ?_)
  refine lv_iload_n C.1 C.2.1 dX11_mend_5 rfl (lv_at hl 1 rfl) ?_
  refine r_cV C X hm hs mlX11_185 mvX11_185 hh (vv := fun r => some (.int r)) (hp := fun r => h) (fun b r hg => c_X9_has l G h b _ r hg) rfl rfl (by simp [va_cat, vc_i, vc_l, vc_r]) (Nat.le_of_ble_eq_true rfl) (Nat.le_of_ble_eq_true rfl) hl.1 dX11_mend_6 (fun b11 r10 H locs hgr10 hh hm hs => ?_)
  refine W.eq (g2 := F0 m 9 ls [.int r10, va_rf (some a0)]) rfl ?_
  refine lv_if_ne (tgt := 16) C.1 C.2.1 dX11_mend_9 (by decide) (fun c16 => ?_) (fun c16 => ?_)
  · rw [if_neg c16] at hh
    refine r_aload_n C.1 C.2.1 dX11_mend_16 rfl (lv_at hl 0 rfl) ?_
    refine r_getR C hm flX11_34 dX11_mend_17 hh (fun x12 _ hh => ?_)
    refine lv_iload_n C.1 C.2.1 dX11_mend_20 rfl (lv_at hl 1 rfl) ?_
    refine r_cV C X hm hs mlX11_228 mvX11_228 hh (vv := fun r => some (.int r.1)) (hp := fun r => r.2) (fun b r hg => c_X9_canBeMended l G h b _ r hg) rfl rfl (by simp [va_cat, vc_i, vc_l, vc_r]) (Nat.le_of_ble_eq_true rfl) (Nat.le_of_ble_eq_true rfl) hl.1 dX11_mend_21 (fun b14 r13 H locs hgr13 hh hm hs => ?_)
    refine W.eq (g2 := F0 m 24 ls [.int r13.1, va_rf (some a0)]) rfl ?_
    refine lv_if_eq (tgt := 31) C.1 C.2.1 dX11_mend_24 (by decide) (fun c15 => ?_) (fun c15 => ?_)
    · rw [if_pos c15] at hh
      refine lv_iconst (v := 5) C.1 C.2.1 dX11_mend_31 (by decide) ?_
      exact B32 _ _ _ _ _ _ _ _  hm hs (lv_sub hl [0, 1] rfl) hh
    · rw [if_neg c15] at hh
      refine lv_iconst (v := 0) C.1 C.2.1 dX11_mend_27 (by decide) ?_
      refine lv_goto (tgt := 32) C.1 C.2.1 dX11_mend_28 (by decide) ?_
      exact B32 _ _ _ _ _ _ _ _  hm hs (lv_sub hl [0, 1] rfl) hh
  · rw [if_pos c16] at hh
    refine lv_iconst (v := 1) C.1 C.2.1 dX11_mend_12 (by decide) ?_
    refine lv_goto (tgt := 32) C.1 C.2.1 dX11_mend_13 (by decide) ?_
    exact B32 _ _ _ _ _ _ _ _  hm hs (lv_sub hl [0, 1] rfl) hh
def mX11_giver (h : MHp) (a0 : Nat) : Option (Int32) := (gR 12 6 h (some a0)).bind fun x1 => (gI 6 1 h x1).bind fun x2 => some x2
set_option maxRecDepth 100000 in
set_option maxHeartbeats 4000000 in
theorem c_X11_giver (l : Launch) (G : Env0) (h : MHp) (a0 : Nat) (res : Int32) (hh : mX11_giver h a0 = some res) : MG l yX11_giver cX11_giver 1 (some .int) 0 0 0 0 G h [.ref a0] (some (.int res)) (h) := by
  refine MG_of (own := RX11) (plainFor_of_name (by decide)) rfl (Nat.le_of_ble_eq_true rfl) ?_
  intro p e s m args below meth c Q ls hQ C X hin hm hs hl hr
  have hl : lv_has ls 1 [(0, va_rf (some a0))] := hl
  unfold mX11_giver at hh
  refine r_aload_n C.1 C.2.1 dX11_giver_0 rfl (lv_at hl 0 rfl) ?_
  refine r_getR C hm flX11_65 dX11_giver_1 hh (fun x1 _ hh => ?_)
  refine r_getI C hm flX11_234 dX11_giver_4 hh (fun x2 _ hh => ?_)
  exact r_iretP hQ C hr hm hs hh dX11_giver_7
def mX11_fill_b47 (h : MHp) (a0 : Nat) (v1 : Int32) (v2 : Int32) (t0 : Option Nat) (t1 : Int32) : Option (Int32 × MHp) := (pI 12 15 h t0 t1).bind fun h1 => (gI 12 15 h1 (some a0)).bind fun x2 => (if x2 = 0 then (gR 12 6 h1 (some a0)).bind fun x3 => (rcv 6 h1 x3).bind fun b5 => (mX5_fillRow h1 b5 v1 v2).bind fun r4 => (if r4.1 = 0 then (pI 12 15 r4.2 (some a0) 6).bind fun h6 => some ((-1), h6) else some (r4.1, r4.2)) else some ((-1), h1))
def mX11_fill (h : MHp) (a0 : Nat) (a1 : Int32) (a2 : Int32) : Option (Int32 × MHp) := (gR 12 2 h (some a0)).bind fun x9 => (rcv 10 h x9).bind fun b11 => (mX9_has h b11 a1).bind fun r10 => (if r10 = 0 then mX11_fill_b47 h a0 a1 a2 (some a0) 1 else (mX11_isWithin h a2 0 999).bind fun r12 => (if r12 = 0 then mX11_fill_b47 h a0 a1 a2 (some a0) 2 else (gR 12 2 h (some a0)).bind fun x13 => (rcv 10 h x13).bind fun b15 => (mX9_canBeFilled h b15 a1).bind fun r14 => (if r14.1 = 0 then mX11_fill_b47 r14.2 a0 a1 a2 (some a0) 5 else mX11_fill_b47 r14.2 a0 a1 a2 (some a0) 0)))
set_option maxRecDepth 100000 in
set_option maxHeartbeats 4000000 in
theorem c_X11_fill (l : Launch) (G : Env0) (h : MHp) (a0 : Nat) (a1 : Int32) (a2 : Int32) (res : Int32 × MHp) (hh : mX11_fill h a0 a1 a2 = some res) : MG l yX11_fill cX11_fill 4 (some .int) 6 149 0 0 G h [.ref a0, .int a1, .int a2] (some (.int res.1)) (res.2) := by
  refine MG_of (own := RX11) (plainFor_of_name (by decide)) rfl (Nat.le_of_ble_eq_true rfl) ?_
  intro p e s m args below meth c Q ls hQ C X hin hm hs hl hr
  have hl : lv_has ls 4 [(0, va_rf (some a0)), (1, .int a1), (2, .int a2)] := hl
  have B47 : ∀ (h : MHp) (H : Heap) (locs : List Loc) (ls : Array Slot) (a0 : Nat) (v1 : Int32) (v2 : Int32) (t0 : Option Nat) (t1 : Int32) , mHp (gD G) (gC G) (gB G) h H → va_S (fun q => gB G ≤ q) s.heap H locs → lv_has ls 4 [(0, va_rf (some a0)), (1, .int v1), (2, .int v2)] → mX11_fill_b47 h a0 v1 v2 t0 t1 = some res → W p l e ({ frames := 6, cells := 0, slots := 0, locals := 149 }) s m args below meth c H locs 0 0 Q (F0 m 47 ls [.int t1, va_rf t0]) := by
    intro h H locs ls a0 v1 v2 t0 t1 hm hs hl hh
    unfold mX11_fill_b47 at hh
    refine r_putI C hm hs flX11_118 (Or.inl fm_12_15) dX11_fill_47 hh (fun h1 H locs _ hh hm hs => ?_)
    refine r_aload_n C.1 C.2.1 dX11_fill_50 rfl (lv_at hl 0 rfl) ?_
    refine r_getI C hm flX11_118 dX11_fill_51 hh (fun x2 _ hh => ?_)
    refine lv_if_eq (tgt := 59) C.1 C.2.1 dX11_fill_54 (by decide) (fun c8 => ?_) (fun c8 => ?_)
    · rw [if_pos c8] at hh
      refine r_aload_n C.1 C.2.1 dX11_fill_59 rfl (lv_at hl 0 rfl) ?_
      refine r_getR C hm flX11_65 dX11_fill_60 hh (fun x3 _ hh => ?_)
      refine lv_iload_n C.1 C.2.1 dX11_fill_63 rfl (lv_at hl 1 rfl) ?_
      refine lv_iload_n C.1 C.2.1 dX11_fill_64 rfl (lv_at hl 2 rfl) ?_
      refine r_cV C X hm hs mlX11_240 mvX11_240 hh (vv := fun r => some (.int r.1)) (hp := fun r => r.2) (fun b r hg => c_X5_fillRow l G h1 b _ _ r hg) rfl rfl (Nat.le_of_ble_eq_true rfl) (Nat.le_of_ble_eq_true rfl) (Nat.le_of_ble_eq_true rfl) hl.1 dX11_fill_65 (fun b5 r4 H locs hgr4 hh hm hs => ?_)
      refine W.eq (g2 := F0 m 68 ls [.int r4.1]) rfl ?_
      refine lv_istore_n (i := 3) (lv' := [(3, .int r4.1), (0, va_rf (some a0)), (1, .int v1), (2, .int v2)]) C.1 C.2.1 dX11_fill_68 rfl hl (by decide) rfl (fun ls hl => ?_)
      refine lv_iload_n C.1 C.2.1 dX11_fill_69 rfl (lv_at hl 0 rfl) ?_
      refine lv_if_ne (tgt := 81) C.1 C.2.1 dX11_fill_70 (by decide) (fun c7 => ?_) (fun c7 => ?_)
      · rw [if_neg c7] at hh
        refine lv_iload_n C.1 C.2.1 dX11_fill_81 rfl (lv_at hl 0 rfl) ?_
        exact r_iretW hQ C hr hm hs hh dX11_fill_82
      · rw [if_pos c7] at hh
        refine r_aload_n C.1 C.2.1 dX11_fill_73 rfl (lv_at hl 1 rfl) ?_
        refine lv_bipush (v := 6) C.1 C.2.1 dX11_fill_74 (by decide) ?_
        refine r_putI C hm hs flX11_118 (Or.inl fm_12_15) dX11_fill_76 hh (fun h6 H locs _ hh hm hs => ?_)
        refine lv_iconst (v := (-1)) C.1 C.2.1 dX11_fill_79 (by decide) ?_
        exact r_iretW hQ C hr hm hs hh dX11_fill_80
    · rw [if_neg c8] at hh
      refine lv_iconst (v := (-1)) C.1 C.2.1 dX11_fill_57 (by decide) ?_
      exact r_iretW hQ C hr hm hs hh dX11_fill_58
  unfold mX11_fill at hh
  refine r_aload_n C.1 C.2.1 dX11_fill_0 rfl (lv_at hl 0 rfl) ?_
  refine r_aload_n C.1 C.2.1 dX11_fill_1 rfl (lv_at hl 0 rfl) ?_
  refine r_getR C hm flX11_34 dX11_fill_2 hh (fun x9 _ hh => ?_)
  refine lv_iload_n C.1 C.2.1 dX11_fill_5 rfl (lv_at hl 1 rfl) ?_
  refine r_cV C X hm hs mlX11_185 mvX11_185 hh (vv := fun r => some (.int r)) (hp := fun r => h) (fun b r hg => c_X9_has l G h b _ r hg) rfl rfl (by simp [va_cat, vc_i, vc_l, vc_r]) (Nat.le_of_ble_eq_true rfl) (Nat.le_of_ble_eq_true rfl) hl.1 dX11_fill_6 (fun b11 r10 H locs hgr10 hh hm hs => ?_)
  refine W.eq (g2 := F0 m 9 ls [.int r10, va_rf (some a0)]) rfl ?_
  refine lv_if_ne (tgt := 16) C.1 C.2.1 dX11_fill_9 (by decide) (fun c18 => ?_) (fun c18 => ?_)
  · rw [if_neg c18] at hh
    refine lv_iload_n C.1 C.2.1 dX11_fill_16 rfl (lv_at hl 2 rfl) ?_
    refine lv_iconst (v := 0) C.1 C.2.1 dX11_fill_17 (by decide) ?_
    refine lv_sipush (v := 999) C.1 C.2.1 dX11_fill_18 (by decide) ?_
    refine r_cS C X hm hs mlX11_188 msX11_188 hh (vv := fun r => some (.int r)) (hp := fun r => h) (fun r hg => c_X11_isWithin l G h _ _ _ r hg) rfl rfl (by simp [va_cat, vc_i, vc_l, vc_r]) (Nat.le_of_ble_eq_true rfl) (Nat.le_of_ble_eq_true rfl) hl.1 dX11_fill_21 (fun r12 H locs hgr12 hh hm hs => ?_)
    refine W.eq (g2 := F0 m 24 ls [.int r12, va_rf (some a0)]) rfl ?_
    refine lv_if_ne (tgt := 31) C.1 C.2.1 dX11_fill_24 (by decide) (fun c17 => ?_) (fun c17 => ?_)
    · rw [if_neg c17] at hh
      refine r_aload_n C.1 C.2.1 dX11_fill_31 rfl (lv_at hl 0 rfl) ?_
      refine r_getR C hm flX11_34 dX11_fill_32 hh (fun x13 _ hh => ?_)
      refine lv_iload_n C.1 C.2.1 dX11_fill_35 rfl (lv_at hl 1 rfl) ?_
      refine r_cV C X hm hs mlX11_237 mvX11_237 hh (vv := fun r => some (.int r.1)) (hp := fun r => r.2) (fun b r hg => c_X9_canBeFilled l G h b _ r hg) rfl rfl (by simp [va_cat, vc_i, vc_l, vc_r]) (Nat.le_of_ble_eq_true rfl) (Nat.le_of_ble_eq_true rfl) hl.1 dX11_fill_36 (fun b15 r14 H locs hgr14 hh hm hs => ?_)
      refine W.eq (g2 := F0 m 39 ls [.int r14.1, va_rf (some a0)]) rfl ?_
      refine lv_if_eq (tgt := 46) C.1 C.2.1 dX11_fill_39 (by decide) (fun c16 => ?_) (fun c16 => ?_)
      · rw [if_pos c16] at hh
        refine lv_iconst (v := 5) C.1 C.2.1 dX11_fill_46 (by decide) ?_
        exact B47 _ _ _ _ _ _ _ _ _  hm hs (lv_sub hl [0, 1, 2] rfl) hh
      · rw [if_neg c16] at hh
        refine lv_iconst (v := 0) C.1 C.2.1 dX11_fill_42 (by decide) ?_
        refine lv_goto (tgt := 47) C.1 C.2.1 dX11_fill_43 (by decide) ?_
        exact B47 _ _ _ _ _ _ _ _ _  hm hs (lv_sub hl [0, 1, 2] rfl) hh
    · rw [if_pos c17] at hh
      refine lv_iconst (v := 2) C.1 C.2.1 dX11_fill_27 (by decide) ?_
      refine lv_goto (tgt := 47) C.1 C.2.1 dX11_fill_28 (by decide) ?_
      exact B47 _ _ _ _ _ _ _ _ _  hm hs (lv_sub hl [0, 1, 2] rfl) hh
  · rw [if_pos c18] at hh
    refine lv_iconst (v := 1) C.1 C.2.1 dX11_fill_12 (by decide) ?_
    refine lv_goto (tgt := 47) C.1 C.2.1 dX11_fill_13 (by decide) ?_
    exact B47 _ _ _ _ _ _ _ _ _  hm hs (lv_sub hl [0, 1, 2] rfl) hh
def mX11_pass_b42 (h : MHp) (a0 : Nat) (v1 : Int32) (t0 : Option Nat) (t1 : Int32) : Option (Int32 × MHp) := (pI 12 15 h t0 t1).bind fun h1 => (gI 12 15 h1 (some a0)).bind fun x2 => (if x2 = 0 then (gR 12 2 h1 (some a0)).bind fun x3 => (gI 10 7 h1 x3).bind fun x4 => (pI 10 7 h1 x3 (x4 + v1)).bind fun h5 => (gR 12 2 h5 (some a0)).bind fun x6 => (gI 10 7 h5 x6).bind fun x7 => some (x7, h5) else some ((-1), h1))
def mX11_pass_b41 (h : MHp) (a0 : Nat) (v1 : Int32) (t0 : Option Nat) : Option (Int32 × MHp) := mX11_pass_b42 h a0 v1 t0 2
def mX11_pass (h : MHp) (a0 : Nat) (a1 : Int32) : Option (Int32 × MHp) := (rcv 12 h (some a0)).bind fun b10 => (mX11_hasBook h b10).bind fun r9 => (if r9 = 0 then mX11_pass_b42 h a0 a1 (some a0) 1 else (mX11_isWithin h a1 1 100).bind fun r11 => (if r11 = 0 then mX11_pass_b41 h a0 a1 (some a0) else (gR 12 2 h (some a0)).bind fun x12 => (gI 10 7 h x12).bind fun x13 => (if 999 < (x13 + a1) then mX11_pass_b41 h a0 a1 (some a0) else mX11_pass_b42 h a0 a1 (some a0) 0)))
set_option maxRecDepth 100000 in
set_option maxHeartbeats 4000000 in
theorem c_X11_pass (l : Launch) (G : Env0) (h : MHp) (a0 : Nat) (a1 : Int32) (res : Int32 × MHp) (hh : mX11_pass h a0 a1 = some res) : MG l yX11_pass cX11_pass 2 (some .int) 1 22 0 0 G h [.ref a0, .int a1] (some (.int res.1)) (res.2) := by
  refine MG_of (own := RX11) (plainFor_of_name (by decide)) rfl (Nat.le_of_ble_eq_true rfl) ?_
  intro p e s m args below meth c Q ls hQ C X hin hm hs hl hr
  have hl : lv_has ls 2 [(0, va_rf (some a0)), (1, .int a1)] := hl
  have B42 : ∀ (h : MHp) (H : Heap) (locs : List Loc) (ls : Array Slot) (a0 : Nat) (v1 : Int32) (t0 : Option Nat) (t1 : Int32) , mHp (gD G) (gC G) (gB G) h H → va_S (fun q => gB G ≤ q) s.heap H locs → lv_has ls 2 [(0, va_rf (some a0)), (1, .int v1)] → mX11_pass_b42 h a0 v1 t0 t1 = some res → W p l e ({ frames := 1, cells := 0, slots := 0, locals := 22 }) s m args below meth c H locs 0 0 Q (F0 m 42 ls [.int t1, va_rf t0]) := by
    intro h H locs ls a0 v1 t0 t1 hm hs hl hh
    unfold mX11_pass_b42 at hh
    refine r_putI C hm hs flX11_118 (Or.inl fm_12_15) dX11_pass_42 hh (fun h1 H locs _ hh hm hs => ?_)
    refine r_aload_n C.1 C.2.1 dX11_pass_45 rfl (lv_at hl 0 rfl) ?_
    refine r_getI C hm flX11_118 dX11_pass_46 hh (fun x2 _ hh => ?_)
    refine lv_if_eq (tgt := 54) C.1 C.2.1 dX11_pass_49 (by decide) (fun c8 => ?_) (fun c8 => ?_)
    · rw [if_pos c8] at hh
      refine r_aload_n C.1 C.2.1 dX11_pass_54 rfl (lv_at hl 0 rfl) ?_
      refine r_getR C hm flX11_34 dX11_pass_55 hh (fun x3 _ hh => ?_)
      refine lv_dup C.1 C.2.1 dX11_pass_58 (va_cat _) ?_
      refine r_getI C hm flX11_201 dX11_pass_59 hh (fun x4 _ hh => ?_)
      refine lv_iload_n C.1 C.2.1 dX11_pass_62 rfl (lv_at hl 1 rfl) ?_
      refine lv_iadd C.1 C.2.1 dX11_pass_63 ?_
      refine r_putI C hm hs flX11_201 (Or.inl fm_10_7) dX11_pass_64 hh (fun h5 H locs _ hh hm hs => ?_)
      refine r_aload_n C.1 C.2.1 dX11_pass_67 rfl (lv_at hl 0 rfl) ?_
      refine r_getR C hm flX11_34 dX11_pass_68 hh (fun x6 _ hh => ?_)
      refine r_getI C hm flX11_201 dX11_pass_71 hh (fun x7 _ hh => ?_)
      exact r_iretW hQ C hr hm hs hh dX11_pass_74
    · rw [if_neg c8] at hh
      refine lv_iconst (v := (-1)) C.1 C.2.1 dX11_pass_52 (by decide) ?_
      exact r_iretW hQ C hr hm hs hh dX11_pass_53
  have B41 : ∀ (h : MHp) (H : Heap) (locs : List Loc) (ls : Array Slot) (a0 : Nat) (v1 : Int32) (t0 : Option Nat) , mHp (gD G) (gC G) (gB G) h H → va_S (fun q => gB G ≤ q) s.heap H locs → lv_has ls 2 [(0, va_rf (some a0)), (1, .int v1)] → mX11_pass_b41 h a0 v1 t0 = some res → W p l e ({ frames := 1, cells := 0, slots := 0, locals := 22 }) s m args below meth c H locs 0 0 Q (F0 m 41 ls [va_rf t0]) := by
    intro h H locs ls a0 v1 t0 hm hs hl hh
    unfold mX11_pass_b41 at hh
    refine lv_iconst (v := 2) C.1 C.2.1 dX11_pass_41 (by decide) ?_
    exact B42 _ _ _ _ _ _ _ _  hm hs (lv_sub hl [0, 1] rfl) hh
  unfold mX11_pass at hh
  refine r_aload_n C.1 C.2.1 dX11_pass_0 rfl (lv_at hl 0 rfl) ?_
  refine r_aload_n C.1 C.2.1 dX11_pass_1 rfl (lv_at hl 0 rfl) ?_
  refine r_cV C X hm hs mlX11_151 mvX11_151 hh (vv := fun r => some (.int r)) (hp := fun r => h) (fun b r hg => c_X11_hasBook l G h b  r hg) rfl rfl (by simp [va_cat, vc_i, vc_l, vc_r]) (Nat.le_of_ble_eq_true rfl) (Nat.le_of_ble_eq_true rfl) hl.1 dX11_pass_2 (fun b10 r9 H locs hgr9 hh hm hs => ?_)
  refine W.eq (g2 := F0 m 5 ls [.int r9, va_rf (some a0)]) rfl ?_
  refine lv_if_ne (tgt := 12) C.1 C.2.1 dX11_pass_5 (by decide) (fun c16 => ?_) (fun c16 => ?_)
  · rw [if_neg c16] at hh
    refine lv_iload_n C.1 C.2.1 dX11_pass_12 rfl (lv_at hl 1 rfl) ?_
    refine lv_iconst (v := 1) C.1 C.2.1 dX11_pass_13 (by decide) ?_
    refine lv_bipush (v := 100) C.1 C.2.1 dX11_pass_14 (by decide) ?_
    refine r_cS C X hm hs mlX11_188 msX11_188 hh (vv := fun r => some (.int r)) (hp := fun r => h) (fun r hg => c_X11_isWithin l G h _ _ _ r hg) rfl rfl (by simp [va_cat, vc_i, vc_l, vc_r]) (Nat.le_of_ble_eq_true rfl) (Nat.le_of_ble_eq_true rfl) hl.1 dX11_pass_16 (fun r11 H locs hgr11 hh hm hs => ?_)
    refine W.eq (g2 := F0 m 19 ls [.int r11, va_rf (some a0)]) rfl ?_
    refine lv_if_eq (tgt := 41) C.1 C.2.1 dX11_pass_19 (by decide) (fun c15 => ?_) (fun c15 => ?_)
    · rw [if_pos c15] at hh
      exact B41 _ _ _ _ _ _ _  hm hs (lv_sub hl [0, 1] rfl) hh
    · rw [if_neg c15] at hh
      refine r_aload_n C.1 C.2.1 dX11_pass_22 rfl (lv_at hl 0 rfl) ?_
      refine r_getR C hm flX11_34 dX11_pass_23 hh (fun x12 _ hh => ?_)
      refine r_getI C hm flX11_201 dX11_pass_26 hh (fun x13 _ hh => ?_)
      refine lv_iload_n C.1 C.2.1 dX11_pass_29 rfl (lv_at hl 1 rfl) ?_
      refine lv_iadd C.1 C.2.1 dX11_pass_30 ?_
      refine lv_sipush (v := 999) C.1 C.2.1 dX11_pass_31 (by decide) ?_
      refine lv_icmp_gt (tgt := 41) C.1 C.2.1 dX11_pass_34 (by decide) (fun c14 => ?_) (fun c14 => ?_)
      · rw [if_pos c14] at hh
        exact B41 _ _ _ _ _ _ _  hm hs (lv_sub hl [0, 1] rfl) hh
      · rw [if_neg c14] at hh
        refine lv_iconst (v := 0) C.1 C.2.1 dX11_pass_37 (by decide) ?_
        refine lv_goto (tgt := 42) C.1 C.2.1 dX11_pass_38 (by decide) ?_
        exact B42 _ _ _ _ _ _ _ _  hm hs (lv_sub hl [0, 1] rfl) hh
  · rw [if_pos c16] at hh
    refine lv_iconst (v := 1) C.1 C.2.1 dX11_pass_8 (by decide) ?_
    refine lv_goto (tgt := 42) C.1 C.2.1 dX11_pass_9 (by decide) ?_
    exact B42 _ _ _ _ _ _ _ _  hm hs (lv_sub hl [0, 1] rfl) hh
def mX11_hasTable (h : MHp) (a0 : Nat) (a1 : Int32) : Option (Int32) := (if a1 < 0 then some 0 else (gI 12 14 h (some a0)).bind fun x1 => (if x1 ≤ a1 then some 0 else (gR 12 3 h (some a0)).bind fun x2 => (gN 24 h x2).bind fun x3 => (if x3 ≤ a1 then some 0 else some 1)))
set_option maxRecDepth 100000 in
set_option maxHeartbeats 4000000 in
theorem c_X11_hasTable (l : Launch) (G : Env0) (h : MHp) (a0 : Nat) (a1 : Int32) (res : Int32) (hh : mX11_hasTable h a0 a1 = some res) : MG l yX11_hasTable cX11_hasTable 2 (some .boolean) 0 0 0 0 G h [.ref a0, .int a1] (some (.int res)) (h) := by
  refine MG_of (own := RX11) (plainFor_of_name (by decide)) rfl (Nat.le_of_ble_eq_true rfl) ?_
  intro p e s m args below meth c Q ls hQ C X hin hm hs hl hr
  have hl : lv_has ls 2 [(0, va_rf (some a0)), (1, .int a1)] := hl
  unfold mX11_hasTable at hh
  refine lv_iload_n C.1 C.2.1 dX11_hasTable_0 rfl (lv_at hl 1 rfl) ?_
  refine lv_if_lt (tgt := 25) C.1 C.2.1 dX11_hasTable_1 (by decide) (fun c6 => ?_) (fun c6 => ?_)
  · rw [if_pos c6] at hh
    refine lv_iconst (v := 0) C.1 C.2.1 dX11_hasTable_25 (by decide) ?_
    exact r_bretP hQ C hr hm hs (by decide) hh dX11_hasTable_26
  · rw [if_neg c6] at hh
    refine lv_iload_n C.1 C.2.1 dX11_hasTable_4 rfl (lv_at hl 1 rfl) ?_
    refine r_aload_n C.1 C.2.1 dX11_hasTable_5 rfl (lv_at hl 0 rfl) ?_
    refine r_getI C hm flX11_137 dX11_hasTable_6 hh (fun x1 _ hh => ?_)
    refine lv_icmp_ge (tgt := 25) C.1 C.2.1 dX11_hasTable_9 (by decide) (fun c5 => ?_) (fun c5 => ?_)
    · rw [if_pos c5] at hh
      refine lv_iconst (v := 0) C.1 C.2.1 dX11_hasTable_25 (by decide) ?_
      exact r_bretP hQ C hr hm hs (by decide) hh dX11_hasTable_26
    · rw [if_neg c5] at hh
      refine lv_iload_n C.1 C.2.1 dX11_hasTable_12 rfl (lv_at hl 1 rfl) ?_
      refine r_aload_n C.1 C.2.1 dX11_hasTable_13 rfl (lv_at hl 0 rfl) ?_
      refine r_getR C hm flX11_40 dX11_hasTable_14 hh (fun x2 _ hh => ?_)
      refine r_len C hm dX11_hasTable_17 (kd := 24) (by decide) hh (fun x3 _ hh => ?_)
      refine lv_icmp_ge (tgt := 25) C.1 C.2.1 dX11_hasTable_18 (by decide) (fun c4 => ?_) (fun c4 => ?_)
      · rw [if_pos c4] at hh
        refine lv_iconst (v := 0) C.1 C.2.1 dX11_hasTable_25 (by decide) ?_
        exact r_bretP hQ C hr hm hs (by decide) hh dX11_hasTable_26
      · rw [if_neg c4] at hh
        refine lv_iconst (v := 1) C.1 C.2.1 dX11_hasTable_21 (by decide) ?_
        refine lv_goto (tgt := 26) C.1 C.2.1 dX11_hasTable_22 (by decide) ?_
        exact r_bretP hQ C hr hm hs (by decide) hh dX11_hasTable_26
def mX11_hasCell (h : MHp) (a0 : Nat) (a1 : Int32) (a2 : Int32) (a3 : Int32) : Option (Int32) := (rcv 12 h (some a0)).bind fun b2 => (mX11_hasTable h b2 a1).bind fun r1 => (if r1 = 0 then some 0 else (gR 12 3 h (some a0)).bind fun x3 => (gAR 24 h x3 a1).bind fun x4 => (rcv 8 h x4).bind fun b6 => (mX7_hasCell h b6 a2 a3).bind fun r5 => (if r5 = 0 then some 0 else some 1))
set_option maxRecDepth 100000 in
set_option maxHeartbeats 4000000 in
theorem c_X11_hasCell (l : Launch) (G : Env0) (h : MHp) (a0 : Nat) (a1 : Int32) (a2 : Int32) (a3 : Int32) (res : Int32) (hh : mX11_hasCell h a0 a1 a2 a3 = some res) : MG l yX11_hasCell cX11_hasCell 4 (some .boolean) 1 22 0 0 G h [.ref a0, .int a1, .int a2, .int a3] (some (.int res)) (h) := by
  refine MG_of (own := RX11) (plainFor_of_name (by decide)) rfl (Nat.le_of_ble_eq_true rfl) ?_
  intro p e s m args below meth c Q ls hQ C X hin hm hs hl hr
  have hl : lv_has ls 4 [(0, va_rf (some a0)), (1, .int a1), (2, .int a2), (3, .int a3)] := hl
  unfold mX11_hasCell at hh
  refine r_aload_n C.1 C.2.1 dX11_hasCell_0 rfl (lv_at hl 0 rfl) ?_
  refine lv_iload_n C.1 C.2.1 dX11_hasCell_1 rfl (lv_at hl 1 rfl) ?_
  refine r_cV C X hm hs mlX11_244 mvX11_244 hh (vv := fun r => some (.int r)) (hp := fun r => h) (fun b r hg => c_X11_hasTable l G h b _ r hg) rfl rfl (Nat.le_of_ble_eq_true rfl) (Nat.le_of_ble_eq_true rfl) (Nat.le_of_ble_eq_true rfl) hl.1 dX11_hasCell_2 (fun b2 r1 H locs hgr1 hh hm hs => ?_)
  refine W.eq (g2 := F0 m 5 ls [.int r1]) rfl ?_
  refine lv_if_eq (tgt := 26) C.1 C.2.1 dX11_hasCell_5 (by decide) (fun c8 => ?_) (fun c8 => ?_)
  · rw [if_pos c8] at hh
    refine lv_iconst (v := 0) C.1 C.2.1 dX11_hasCell_26 (by decide) ?_
    exact r_bretP hQ C hr hm hs (by decide) hh dX11_hasCell_27
  · rw [if_neg c8] at hh
    refine r_aload_n C.1 C.2.1 dX11_hasCell_8 rfl (lv_at hl 0 rfl) ?_
    refine r_getR C hm flX11_40 dX11_hasCell_9 hh (fun x3 _ hh => ?_)
    refine lv_iload_n C.1 C.2.1 dX11_hasCell_12 rfl (lv_at hl 1 rfl) ?_
    refine r_ald_q C hm dX11_hasCell_13 (kd := 24) (by decide) (t0 := 4) rfl hh (fun x4 _ hh => ?_)
    refine lv_iload_n C.1 C.2.1 dX11_hasCell_14 rfl (lv_at hl 2 rfl) ?_
    refine lv_iload_n C.1 C.2.1 dX11_hasCell_15 rfl (lv_at hl 3 rfl) ?_
    refine r_cV C X hm hs mlX11_247 mvX11_247 hh (vv := fun r => some (.int r)) (hp := fun r => h) (fun b r hg => c_X7_hasCell l G h b _ _ r hg) rfl rfl (Nat.le_of_ble_eq_true rfl) (Nat.le_of_ble_eq_true rfl) (Nat.le_of_ble_eq_true rfl) hl.1 dX11_hasCell_16 (fun b6 r5 H locs hgr5 hh hm hs => ?_)
    refine W.eq (g2 := F0 m 19 ls [.int r5]) rfl ?_
    refine lv_if_eq (tgt := 26) C.1 C.2.1 dX11_hasCell_19 (by decide) (fun c7 => ?_) (fun c7 => ?_)
    · rw [if_pos c7] at hh
      refine lv_iconst (v := 0) C.1 C.2.1 dX11_hasCell_26 (by decide) ?_
      exact r_bretP hQ C hr hm hs (by decide) hh dX11_hasCell_27
    · rw [if_neg c7] at hh
      refine lv_iconst (v := 1) C.1 C.2.1 dX11_hasCell_22 (by decide) ?_
      refine lv_goto (tgt := 27) C.1 C.2.1 dX11_hasCell_23 (by decide) ?_
      exact r_bretP hQ C hr hm hs (by decide) hh dX11_hasCell_27
def mX11_figure_b42 (h : MHp) (a0 : Nat) (v1 : Int32) (v2 : Int32) (v3 : Int32) (v4 : Int32) (v5 : Int32) (t0 : Option Nat) (t1 : Int32) : Option (Int64 × MHp) := (pI 12 15 h t0 t1).bind fun h1 => (gI 12 15 h1 (some a0)).bind fun x2 => (if x2 = 0 then (rcv 12 h1 (some a0)).bind fun b4 => (mX11_hasTable h1 b4 v1).bind fun r3 => (if r3 = 0 then some ((-9223372036854775808), h1) else (gR 12 7 h1 (some a0)).bind fun x5 => (gR 12 3 h1 (some a0)).bind fun x6 => (gAR 24 h1 x6 v1).bind fun x7 => (gR 12 3 h1 (some a0)).bind fun x8 => (gAR 24 h1 x8 v1).bind fun x9 => (rcv 8 h1 x9).bind fun b11 => (mX7_cellAt h1 b11 v2 v3).bind fun r10 => (rcv 3 h1 x5).bind fun b13 => (mX2_sumOf h1 b13 x7 r10 v4 v5).bind fun r12 => some (r12.1, r12.2)) else some ((-9223372036854775808), h1))
def mX11_figure_b41 (h : MHp) (a0 : Nat) (v1 : Int32) (v2 : Int32) (v3 : Int32) (v4 : Int32) (v5 : Int32) (t0 : Option Nat) : Option (Int64 × MHp) := mX11_figure_b42 h a0 v1 v2 v3 v4 v5 t0 2
def mX11_figure (h : MHp) (a0 : Nat) (a1 : Int32) (a2 : Int32) (a3 : Int32) (a4 : Int32) (a5 : Int32) : Option (Int64 × MHp) := (rcv 12 h (some a0)).bind fun b17 => (mX11_hasCell h b17 a1 a2 a3).bind fun r16 => (if r16 = 0 then mX11_figure_b42 h a0 a1 a2 a3 a4 a5 (some a0) 1 else (gR 12 2 h (some a0)).bind fun x18 => (rcv 10 h x18).bind fun b20 => (mX9_isDay h b20 a4).bind fun r19 => (if r19 = 0 then mX11_figure_b41 h a0 a1 a2 a3 a4 a5 (some a0) else (mX11_isWithin h a5 0 4).bind fun r21 => (if r21 = 0 then mX11_figure_b41 h a0 a1 a2 a3 a4 a5 (some a0) else mX11_figure_b42 h a0 a1 a2 a3 a4 a5 (some a0) 0)))
set_option maxRecDepth 100000 in
set_option maxHeartbeats 4000000 in
theorem c_X11_figure (l : Launch) (G : Env0) (h : MHp) (a0 : Nat) (a1 : Int32) (a2 : Int32) (a3 : Int32) (a4 : Int32) (a5 : Int32) (res : Int64 × MHp) (hh : mX11_figure h a0 a1 a2 a3 a4 a5 = some res) : MG l yX11_figure cX11_figure 6 (some .long) 5 123 0 0 G h [.ref a0, .int a1, .int a2, .int a3, .int a4, .int a5] (some (.long res.1)) (res.2) := by
  refine MG_of (own := RX11) (plainFor_of_name (by decide)) rfl (Nat.le_of_ble_eq_true rfl) ?_
  intro p e s m args below meth c Q ls hQ C X hin hm hs hl hr
  have hl : lv_has ls 6 [(0, va_rf (some a0)), (1, .int a1), (2, .int a2), (3, .int a3), (4, .int a4), (5, .int a5)] := hl
  have B42 : ∀ (h : MHp) (H : Heap) (locs : List Loc) (ls : Array Slot) (a0 : Nat) (v1 : Int32) (v2 : Int32) (v3 : Int32) (v4 : Int32) (v5 : Int32) (t0 : Option Nat) (t1 : Int32) , mHp (gD G) (gC G) (gB G) h H → va_S (fun q => gB G ≤ q) s.heap H locs → lv_has ls 6 [(0, va_rf (some a0)), (1, .int v1), (2, .int v2), (3, .int v3), (4, .int v4), (5, .int v5)] → mX11_figure_b42 h a0 v1 v2 v3 v4 v5 t0 t1 = some res → W p l e ({ frames := 5, cells := 0, slots := 0, locals := 123 }) s m args below meth c H locs 0 0 Q (F0 m 42 ls [.int t1, va_rf t0]) := by
    intro h H locs ls a0 v1 v2 v3 v4 v5 t0 t1 hm hs hl hh
    unfold mX11_figure_b42 at hh
    refine r_putI C hm hs flX11_118 (Or.inl fm_12_15) dX11_figure_42 hh (fun h1 H locs _ hh hm hs => ?_)
    refine r_aload_n C.1 C.2.1 dX11_figure_45 rfl (lv_at hl 0 rfl) ?_
    refine r_getI C hm flX11_118 dX11_figure_46 hh (fun x2 _ hh => ?_)
    refine lv_if_ne (tgt := 60) C.1 C.2.1 dX11_figure_49 (by decide) (fun c15 => ?_) (fun c15 => ?_)
    · rw [if_neg c15] at hh
      refine lv_ldc2 (v := (-9223372036854775808)) C.1 C.2.1 C.2.2.2.1 (C.2.2.2.2.1 _ (in_tbl q_894 rfl)) dX11_figure_60 ?_
      exact r_lretW hQ C hr hm hs hh dX11_figure_63
    · rw [if_pos c15] at hh
      refine r_aload_n C.1 C.2.1 dX11_figure_52 rfl (lv_at hl 0 rfl) ?_
      refine lv_iload_n C.1 C.2.1 dX11_figure_53 rfl (lv_at hl 1 rfl) ?_
      refine r_cV C X hm hs mlX11_244 mvX11_244 hh (vv := fun r => some (.int r)) (hp := fun r => h1) (fun b r hg => c_X11_hasTable l G h1 b _ r hg) rfl rfl (Nat.le_of_ble_eq_true rfl) (Nat.le_of_ble_eq_true rfl) (Nat.le_of_ble_eq_true rfl) hl.1 dX11_figure_54 (fun b4 r3 H locs hgr3 hh hm hs => ?_)
      refine W.eq (g2 := F0 m 57 ls [.int r3]) rfl ?_
      refine lv_if_ne (tgt := 64) C.1 C.2.1 dX11_figure_57 (by decide) (fun c14 => ?_) (fun c14 => ?_)
      · rw [if_neg c14] at hh
        refine r_aload_n C.1 C.2.1 dX11_figure_64 rfl (lv_at hl 0 rfl) ?_
        refine r_getR C hm flX11_72 dX11_figure_65 hh (fun x5 _ hh => ?_)
        refine r_aload_n C.1 C.2.1 dX11_figure_68 rfl (lv_at hl 0 rfl) ?_
        refine r_getR C hm flX11_40 dX11_figure_69 hh (fun x6 _ hh => ?_)
        refine lv_iload_n C.1 C.2.1 dX11_figure_72 rfl (lv_at hl 1 rfl) ?_
        refine r_ald_q C hm dX11_figure_73 (kd := 24) (by decide) (t0 := 4) rfl hh (fun x7 _ hh => ?_)
        refine r_aload_n C.1 C.2.1 dX11_figure_74 rfl (lv_at hl 0 rfl) ?_
        refine r_getR C hm flX11_40 dX11_figure_75 hh (fun x8 _ hh => ?_)
        refine lv_iload_n C.1 C.2.1 dX11_figure_78 rfl (lv_at hl 1 rfl) ?_
        refine r_ald_q C hm dX11_figure_79 (kd := 24) (by decide) (t0 := 4) rfl hh (fun x9 _ hh => ?_)
        refine lv_iload_n C.1 C.2.1 dX11_figure_80 rfl (lv_at hl 2 rfl) ?_
        refine lv_iload_n C.1 C.2.1 dX11_figure_81 rfl (lv_at hl 3 rfl) ?_
        refine r_cV C X hm hs mlX11_254 mvX11_254 hh (vv := fun r => some (.int r)) (hp := fun r => h1) (fun b r hg => c_X7_cellAt l G h1 b _ _ r hg) rfl rfl (by simp [va_cat, vc_i, vc_l, vc_r]) (Nat.le_of_ble_eq_true rfl) (Nat.le_of_ble_eq_true rfl) hl.1 dX11_figure_82 (fun b11 r10 H locs hgr10 hh hm hs => ?_)
        refine W.eq (g2 := F0 m 85 ls [.int r10, va_rf x7, va_rf x5]) rfl ?_
        refine lv_iload C.1 C.2.1 dX11_figure_85 (lv_at hl 4 rfl) ?_
        refine lv_iload C.1 C.2.1 dX11_figure_87 (lv_at hl 5 rfl) ?_
        refine r_cV C X hm hs mlX11_257 mvX11_257 hh (vv := fun r => some (.long r.1)) (hp := fun r => r.2) (fun b r hg => c_X2_sumOf l G h1 b _ _ _ _ r hg) rfl rfl (Nat.le_of_ble_eq_true rfl) (Nat.le_of_ble_eq_true rfl) (Nat.le_of_ble_eq_true rfl) hl.1 dX11_figure_89 (fun b13 r12 H locs hgr12 hh hm hs => ?_)
        refine W.eq (g2 := F0 m 92 ls [.long r12.1]) rfl ?_
        exact r_lretW hQ C hr hm hs hh dX11_figure_92
      · rw [if_pos c14] at hh
        refine lv_ldc2 (v := (-9223372036854775808)) C.1 C.2.1 C.2.2.2.1 (C.2.2.2.2.1 _ (in_tbl q_894 rfl)) dX11_figure_60 ?_
        exact r_lretW hQ C hr hm hs hh dX11_figure_63
  have B41 : ∀ (h : MHp) (H : Heap) (locs : List Loc) (ls : Array Slot) (a0 : Nat) (v1 : Int32) (v2 : Int32) (v3 : Int32) (v4 : Int32) (v5 : Int32) (t0 : Option Nat) , mHp (gD G) (gC G) (gB G) h H → va_S (fun q => gB G ≤ q) s.heap H locs → lv_has ls 6 [(0, va_rf (some a0)), (1, .int v1), (2, .int v2), (3, .int v3), (4, .int v4), (5, .int v5)] → mX11_figure_b41 h a0 v1 v2 v3 v4 v5 t0 = some res → W p l e ({ frames := 5, cells := 0, slots := 0, locals := 123 }) s m args below meth c H locs 0 0 Q (F0 m 41 ls [va_rf t0]) := by
    intro h H locs ls a0 v1 v2 v3 v4 v5 t0 hm hs hl hh
    unfold mX11_figure_b41 at hh
    refine lv_iconst (v := 2) C.1 C.2.1 dX11_figure_41 (by decide) ?_
    exact B42 _ _ _ _ _ _ _ _ _ _ _ _  hm hs (lv_sub hl [0, 1, 2, 3, 4, 5] rfl) hh
  unfold mX11_figure at hh
  refine r_aload_n C.1 C.2.1 dX11_figure_0 rfl (lv_at hl 0 rfl) ?_
  refine r_aload_n C.1 C.2.1 dX11_figure_1 rfl (lv_at hl 0 rfl) ?_
  refine lv_iload_n C.1 C.2.1 dX11_figure_2 rfl (lv_at hl 1 rfl) ?_
  refine lv_iload_n C.1 C.2.1 dX11_figure_3 rfl (lv_at hl 2 rfl) ?_
  refine lv_iload_n C.1 C.2.1 dX11_figure_4 rfl (lv_at hl 3 rfl) ?_
  refine r_cV C X hm hs mlX11_250 mvX11_250 hh (vv := fun r => some (.int r)) (hp := fun r => h) (fun b r hg => c_X11_hasCell l G h b _ _ _ r hg) rfl rfl (by simp [va_cat, vc_i, vc_l, vc_r]) (Nat.le_of_ble_eq_true rfl) (Nat.le_of_ble_eq_true rfl) hl.1 dX11_figure_5 (fun b17 r16 H locs hgr16 hh hm hs => ?_)
  refine W.eq (g2 := F0 m 8 ls [.int r16, va_rf (some a0)]) rfl ?_
  refine lv_if_ne (tgt := 15) C.1 C.2.1 dX11_figure_8 (by decide) (fun c24 => ?_) (fun c24 => ?_)
  · rw [if_neg c24] at hh
    refine r_aload_n C.1 C.2.1 dX11_figure_15 rfl (lv_at hl 0 rfl) ?_
    refine r_getR C hm flX11_34 dX11_figure_16 hh (fun x18 _ hh => ?_)
    refine lv_iload C.1 C.2.1 dX11_figure_19 (lv_at hl 4 rfl) ?_
    refine r_cV C X hm hs mlX11_204 mvX11_204 hh (vv := fun r => some (.int r)) (hp := fun r => h) (fun b r hg => c_X9_isDay l G h b _ r hg) rfl rfl (by simp [va_cat, vc_i, vc_l, vc_r]) (Nat.le_of_ble_eq_true rfl) (Nat.le_of_ble_eq_true rfl) hl.1 dX11_figure_21 (fun b20 r19 H locs hgr19 hh hm hs => ?_)
    refine W.eq (g2 := F0 m 24 ls [.int r19, va_rf (some a0)]) rfl ?_
    refine lv_if_eq (tgt := 41) C.1 C.2.1 dX11_figure_24 (by decide) (fun c23 => ?_) (fun c23 => ?_)
    · rw [if_pos c23] at hh
      exact B41 _ _ _ _ _ _ _ _ _ _ _  hm hs (lv_sub hl [0, 1, 2, 3, 4, 5] rfl) hh
    · rw [if_neg c23] at hh
      refine lv_iload C.1 C.2.1 dX11_figure_27 (lv_at hl 5 rfl) ?_
      refine lv_iconst (v := 0) C.1 C.2.1 dX11_figure_29 (by decide) ?_
      refine lv_iconst (v := 4) C.1 C.2.1 dX11_figure_30 (by decide) ?_
      refine r_cS C X hm hs mlX11_188 msX11_188 hh (vv := fun r => some (.int r)) (hp := fun r => h) (fun r hg => c_X11_isWithin l G h _ _ _ r hg) rfl rfl (by simp [va_cat, vc_i, vc_l, vc_r]) (Nat.le_of_ble_eq_true rfl) (Nat.le_of_ble_eq_true rfl) hl.1 dX11_figure_31 (fun r21 H locs hgr21 hh hm hs => ?_)
      refine W.eq (g2 := F0 m 34 ls [.int r21, va_rf (some a0)]) rfl ?_
      refine lv_if_eq (tgt := 41) C.1 C.2.1 dX11_figure_34 (by decide) (fun c22 => ?_) (fun c22 => ?_)
      · rw [if_pos c22] at hh
        exact B41 _ _ _ _ _ _ _ _ _ _ _  hm hs (lv_sub hl [0, 1, 2, 3, 4, 5] rfl) hh
      · rw [if_neg c22] at hh
        refine lv_iconst (v := 0) C.1 C.2.1 dX11_figure_37 (by decide) ?_
        refine lv_goto (tgt := 42) C.1 C.2.1 dX11_figure_38 (by decide) ?_
        exact B42 _ _ _ _ _ _ _ _ _ _ _ _  hm hs (lv_sub hl [0, 1, 2, 3, 4, 5] rfl) hh
  · rw [if_pos c24] at hh
    refine lv_iconst (v := 1) C.1 C.2.1 dX11_figure_11 (by decide) ?_
    refine lv_goto (tgt := 42) C.1 C.2.1 dX11_figure_12 (by decide) ?_
    exact B42 _ _ _ _ _ _ _ _ _ _ _ _  hm hs (lv_sub hl [0, 1, 2, 3, 4, 5] rfl) hh
def mX11_span_b133 (k79 : MHp → Nat → Int32 → Int32 → Int32 → Int64 → Int32 → Option (Int64 × MHp)) (h : MHp) (a0 : Nat) (v1 : Int32) (v4 : Int32) (v5 : Int32) (v8 : Int32) (t0 : Int64) : Option (Int64 × MHp) := k79 h a0 v1 v4 v5 t0 (v8 + 1)
def mX11_span_l79 : Nat → MHp → Nat → Int32 → Int32 → Int32 → Int64 → Int32 → Option (Int64 × MHp)
  | 0, _, _, _, _, _, _, _ => none
  | n + 1, h, a0, v1, v4, v5, v6, v8 => (if 5 ≤ v8 then some (v6, h) else (gR 12 7 h (some a0)).bind fun x1 => (gR 12 3 h (some a0)).bind fun x2 => (gAR 24 h x2 v1).bind fun x3 => (gR 12 2 h (some a0)).bind fun x4 => (gI 10 7 h x4).bind fun x5 => (rcv 3 h x1).bind fun b7 => (mX2_sumOf h b7 x3 v5 x5 v8).bind fun r6 => (if v4 = 0 then (mJ9_min_f86c9 r6.2 v6 r6.1).bind fun r8 => mX11_span_b133 (mX11_span_l79 n) r6.2 a0 v1 v4 v5 v8 r8 else (mJ9_max_f86c9 r6.2 v6 r6.1).bind fun r9 => mX11_span_b133 (mX11_span_l79 n) r6.2 a0 v1 v4 v5 v8 r9))
def mX11_span_b16 (h : MHp) (a0 : Nat) (v1 : Int32) (v2 : Int32) (v3 : Int32) (v4 : Int32) (t0 : Option Nat) (t1 : Int32) : Option (Int64 × MHp) := (pI 12 15 h t0 t1).bind fun h12 => (gI 12 15 h12 (some a0)).bind fun x13 => (if x13 = 0 then (rcv 12 h12 (some a0)).bind fun b15 => (mX11_hasTable h12 b15 v1).bind fun r14 => (if r14 = 0 then some ((-9223372036854775808), h12) else (gR 12 3 h12 (some a0)).bind fun x16 => (gAR 24 h12 x16 v1).bind fun x17 => (rcv 8 h12 x17).bind fun b19 => (mX7_cellAt h12 b19 v2 v3).bind fun r18 => (gR 12 7 h12 (some a0)).bind fun x20 => (gR 12 3 h12 (some a0)).bind fun x21 => (gAR 24 h12 x21 v1).bind fun x22 => (gR 12 2 h12 (some a0)).bind fun x23 => (gI 10 7 h12 x23).bind fun x24 => (rcv 3 h12 x20).bind fun b26 => (mX2_sumOf h12 b26 x22 r18 x24 0).bind fun r25 => mX11_span_l79 FUEL r25.2 a0 v1 v4 r18 r25.1 1) else some ((-9223372036854775808), h12))
def mX11_span (h : MHp) (a0 : Nat) (a1 : Int32) (a2 : Int32) (a3 : Int32) (a4 : Int32) : Option (Int64 × MHp) := (rcv 12 h (some a0)).bind fun b30 => (mX11_hasCell h b30 a1 a2 a3).bind fun r29 => (if r29 = 0 then mX11_span_b16 h a0 a1 a2 a3 a4 (some a0) 1 else mX11_span_b16 h a0 a1 a2 a3 a4 (some a0) 0)
set_option maxRecDepth 100000 in
set_option maxHeartbeats 4000000 in
theorem c_X11_span (l : Launch) (G : Env0) (h : MHp) (a0 : Nat) (a1 : Int32) (a2 : Int32) (a3 : Int32) (a4 : Int32) (res : Int64 × MHp) (hh : mX11_span h a0 a1 a2 a3 a4 = some res) : MG l yX11_span cX11_span 11 (some .long) 5 123 0 0 G h [.ref a0, .int a1, .int a2, .int a3, .int a4] (some (.long res.1)) (res.2) := by
  refine MG_of (own := RX11) (plainFor_of_name (by decide)) rfl (Nat.le_of_ble_eq_true rfl) ?_
  intro p e s m args below meth c Q ls hQ C X hin hm hs hl hr
  have hl : lv_has ls 11 [(0, va_rf (some a0)), (1, .int a1), (2, .int a2), (3, .int a3), (4, .int a4)] := hl
  have B133 : ∀ (k79 : MHp → Nat → Int32 → Int32 → Int32 → Int64 → Int32 → Option (Int64 × MHp)), (∀ (h : MHp) (H : Heap) (locs : List Loc) (ls : Array Slot) (a0 : Nat) (v1 : Int32) (v4 : Int32) (v5 : Int32) (v6 : Int64) (v8 : Int32) , mHp (gD G) (gC G) (gB G) h H → va_S (fun q => gB G ≤ q) s.heap H locs → lv_has ls 11 [(0, va_rf (some a0)), (1, .int v1), (4, .int v4), (5, .int v5), (6, .long v6), (8, .int v8)] → k79 h a0 v1 v4 v5 v6 v8 = some res → W p l e ({ frames := 5, cells := 0, slots := 0, locals := 123 }) s m args below meth c H locs 0 0 Q (F0 m 79 ls [])) → ∀ (h : MHp) (H : Heap) (locs : List Loc) (ls : Array Slot) (a0 : Nat) (v1 : Int32) (v4 : Int32) (v5 : Int32) (v8 : Int32) (t0 : Int64) , mHp (gD G) (gC G) (gB G) h H → va_S (fun q => gB G ≤ q) s.heap H locs → lv_has ls 11 [(0, va_rf (some a0)), (1, .int v1), (4, .int v4), (5, .int v5), (8, .int v8)] → mX11_span_b133 k79 h a0 v1 v4 v5 v8 t0 = some res → W p l e ({ frames := 5, cells := 0, slots := 0, locals := 123 }) s m args below meth c H locs 0 0 Q (F0 m 133 ls [.long t0]) := by
    intro k79 hk79 h H locs ls a0 v1 v4 v5 v8 t0 hm hs hl hh
    unfold mX11_span_b133 at hh
    refine lv_lstore (i := 6) (lv' := [(6, .long t0), (0, va_rf (some a0)), (1, .int v1), (4, .int v4), (5, .int v5), (8, .int v8)]) C.1 C.2.1 dX11_span_133 hl (by decide) rfl (fun ls hl => ?_)
    refine lv_iinc (v := (v8 + 1)) (lv' := [(8, .int (v8 + 1)), (6, .long t0), (0, va_rf (some a0)), (1, .int v1), (4, .int v4), (5, .int v5)]) C.1 C.2.1 dX11_span_135 hl (k := 5) rfl rfl (by decide) rfl (fun ls hl => ?_)
    refine lv_goto (tgt := 79) C.1 C.2.1 dX11_span_138 (by decide) ?_
    exact hk79 _ _ _ _ _ _ _ _ _ _  hm hs (lv_sub hl [2, 3, 4, 5, 1, 0] rfl) hh
  have B79 : ∀ n : Nat, ∀ (h : MHp) (H : Heap) (locs : List Loc) (ls : Array Slot) (a0 : Nat) (v1 : Int32) (v4 : Int32) (v5 : Int32) (v6 : Int64) (v8 : Int32) , mHp (gD G) (gC G) (gB G) h H → va_S (fun q => gB G ≤ q) s.heap H locs → lv_has ls 11 [(0, va_rf (some a0)), (1, .int v1), (4, .int v4), (5, .int v5), (6, .long v6), (8, .int v8)] → mX11_span_l79 n h a0 v1 v4 v5 v6 v8 = some res → W p l e ({ frames := 5, cells := 0, slots := 0, locals := 123 }) s m args below meth c H locs 0 0 Q (F0 m 79 ls []) := by
    intro n
    induction n with
    | zero => intro h H locs ls a0 v1 v4 v5 v6 v8 hm hs hl hh; cases hh
    | succ n ih =>
      intro h H locs ls a0 v1 v4 v5 v6 v8 hm hs hl hh
      unfold mX11_span_l79 at hh
      refine lv_iload C.1 C.2.1 dX11_span_79 (lv_at hl 5 rfl) ?_
      refine lv_iconst (v := 5) C.1 C.2.1 dX11_span_81 (by decide) ?_
      refine lv_icmp_ge (tgt := 141) C.1 C.2.1 dX11_span_82 (by decide) (fun c11 => ?_) (fun c11 => ?_)
      · rw [if_pos c11] at hh
        refine lv_lload C.1 C.2.1 dX11_span_141 (lv_at hl 4 rfl) ?_
        exact r_lretW hQ C hr hm hs hh dX11_span_143
      · rw [if_neg c11] at hh
        refine r_aload_n C.1 C.2.1 dX11_span_85 rfl (lv_at hl 0 rfl) ?_
        refine r_getR C hm flX11_72 dX11_span_86 hh (fun x1 _ hh => ?_)
        refine r_aload_n C.1 C.2.1 dX11_span_89 rfl (lv_at hl 0 rfl) ?_
        refine r_getR C hm flX11_40 dX11_span_90 hh (fun x2 _ hh => ?_)
        refine lv_iload_n C.1 C.2.1 dX11_span_93 rfl (lv_at hl 1 rfl) ?_
        refine r_ald_q C hm dX11_span_94 (kd := 24) (by decide) (t0 := 4) rfl hh (fun x3 _ hh => ?_)
        refine lv_iload C.1 C.2.1 dX11_span_95 (lv_at hl 3 rfl) ?_
        refine r_aload_n C.1 C.2.1 dX11_span_97 rfl (lv_at hl 0 rfl) ?_
        refine r_getR C hm flX11_34 dX11_span_98 hh (fun x4 _ hh => ?_)
        refine r_getI C hm flX11_201 dX11_span_101 hh (fun x5 _ hh => ?_)
        refine lv_iload C.1 C.2.1 dX11_span_104 (lv_at hl 5 rfl) ?_
        refine r_cV C X hm hs mlX11_257 mvX11_257 hh (vv := fun r => some (.long r.1)) (hp := fun r => r.2) (fun b r hg => c_X2_sumOf l G h b _ _ _ _ r hg) rfl rfl (Nat.le_of_ble_eq_true rfl) (Nat.le_of_ble_eq_true rfl) (Nat.le_of_ble_eq_true rfl) hl.1 dX11_span_106 (fun b7 r6 H locs hgr6 hh hm hs => ?_)
        refine W.eq (g2 := F0 m 109 ls [.long r6.1]) rfl ?_
        refine lv_lstore (i := 9) (lv' := [(9, .long r6.1), (0, va_rf (some a0)), (1, .int v1), (4, .int v4), (5, .int v5), (6, .long v6), (8, .int v8)]) C.1 C.2.1 dX11_span_109 hl (by decide) rfl (fun ls hl => ?_)
        refine lv_iload C.1 C.2.1 dX11_span_111 (lv_at hl 3 rfl) ?_
        refine lv_if_eq (tgt := 126) C.1 C.2.1 dX11_span_113 (by decide) (fun c10 => ?_) (fun c10 => ?_)
        · rw [if_pos c10] at hh
          refine lv_lload C.1 C.2.1 dX11_span_126 (lv_at hl 5 rfl) ?_
          refine lv_lload C.1 C.2.1 dX11_span_128 (lv_at hl 0 rfl) ?_
          refine r_cS C X hm hs mlX11_267 msX11_267 hh (vv := fun r => some (.long r)) (hp := fun r => r6.2) (fun r hg => c_J9_min_f86c9 l G r6.2 _ _ r hg) rfl rfl (Nat.le_of_ble_eq_true rfl) (Nat.le_of_ble_eq_true rfl) (Nat.le_of_ble_eq_true rfl) hl.1 dX11_span_130 (fun r8 H locs hgr8 hh hm hs => ?_)
          refine W.eq (g2 := F0 m 133 ls [.long r8]) rfl ?_
          exact B133 _ ih _ _ _ _ _ _ _ _ _ _  hm hs (lv_sub hl [1, 2, 3, 4, 6] rfl) hh
        · rw [if_neg c10] at hh
          refine lv_lload C.1 C.2.1 dX11_span_116 (lv_at hl 5 rfl) ?_
          refine lv_lload C.1 C.2.1 dX11_span_118 (lv_at hl 0 rfl) ?_
          refine r_cS C X hm hs mlX11_261 msX11_261 hh (vv := fun r => some (.long r)) (hp := fun r => r6.2) (fun r hg => c_J9_max_f86c9 l G r6.2 _ _ r hg) rfl rfl (Nat.le_of_ble_eq_true rfl) (Nat.le_of_ble_eq_true rfl) (Nat.le_of_ble_eq_true rfl) hl.1 dX11_span_120 (fun r9 H locs hgr9 hh hm hs => ?_)
          refine W.eq (g2 := F0 m 123 ls [.long r9]) rfl ?_
          refine lv_goto (tgt := 133) C.1 C.2.1 dX11_span_123 (by decide) ?_
          exact B133 _ ih _ _ _ _ _ _ _ _ _ _  hm hs (lv_sub hl [1, 2, 3, 4, 6] rfl) hh
  have B16 : ∀ (h : MHp) (H : Heap) (locs : List Loc) (ls : Array Slot) (a0 : Nat) (v1 : Int32) (v2 : Int32) (v3 : Int32) (v4 : Int32) (t0 : Option Nat) (t1 : Int32) , mHp (gD G) (gC G) (gB G) h H → va_S (fun q => gB G ≤ q) s.heap H locs → lv_has ls 11 [(0, va_rf (some a0)), (1, .int v1), (2, .int v2), (3, .int v3), (4, .int v4)] → mX11_span_b16 h a0 v1 v2 v3 v4 t0 t1 = some res → W p l e ({ frames := 5, cells := 0, slots := 0, locals := 123 }) s m args below meth c H locs 0 0 Q (F0 m 16 ls [.int t1, va_rf t0]) := by
    intro h H locs ls a0 v1 v2 v3 v4 t0 t1 hm hs hl hh
    unfold mX11_span_b16 at hh
    refine r_putI C hm hs flX11_118 (Or.inl fm_12_15) dX11_span_16 hh (fun h12 H locs _ hh hm hs => ?_)
    refine r_aload_n C.1 C.2.1 dX11_span_19 rfl (lv_at hl 0 rfl) ?_
    refine r_getI C hm flX11_118 dX11_span_20 hh (fun x13 _ hh => ?_)
    refine lv_if_ne (tgt := 34) C.1 C.2.1 dX11_span_23 (by decide) (fun c28 => ?_) (fun c28 => ?_)
    · rw [if_neg c28] at hh
      refine lv_ldc2 (v := (-9223372036854775808)) C.1 C.2.1 C.2.2.2.1 (C.2.2.2.2.1 _ (in_tbl q_894 rfl)) dX11_span_34 ?_
      exact r_lretW hQ C hr hm hs hh dX11_span_37
    · rw [if_pos c28] at hh
      refine r_aload_n C.1 C.2.1 dX11_span_26 rfl (lv_at hl 0 rfl) ?_
      refine lv_iload_n C.1 C.2.1 dX11_span_27 rfl (lv_at hl 1 rfl) ?_
      refine r_cV C X hm hs mlX11_244 mvX11_244 hh (vv := fun r => some (.int r)) (hp := fun r => h12) (fun b r hg => c_X11_hasTable l G h12 b _ r hg) rfl rfl (Nat.le_of_ble_eq_true rfl) (Nat.le_of_ble_eq_true rfl) (Nat.le_of_ble_eq_true rfl) hl.1 dX11_span_28 (fun b15 r14 H locs hgr14 hh hm hs => ?_)
      refine W.eq (g2 := F0 m 31 ls [.int r14]) rfl ?_
      refine lv_if_ne (tgt := 38) C.1 C.2.1 dX11_span_31 (by decide) (fun c27 => ?_) (fun c27 => ?_)
      · rw [if_neg c27] at hh
        refine r_aload_n C.1 C.2.1 dX11_span_38 rfl (lv_at hl 0 rfl) ?_
        refine r_getR C hm flX11_40 dX11_span_39 hh (fun x16 _ hh => ?_)
        refine lv_iload_n C.1 C.2.1 dX11_span_42 rfl (lv_at hl 1 rfl) ?_
        refine r_ald_q C hm dX11_span_43 (kd := 24) (by decide) (t0 := 4) rfl hh (fun x17 _ hh => ?_)
        refine lv_iload_n C.1 C.2.1 dX11_span_44 rfl (lv_at hl 2 rfl) ?_
        refine lv_iload_n C.1 C.2.1 dX11_span_45 rfl (lv_at hl 3 rfl) ?_
        refine r_cV C X hm hs mlX11_254 mvX11_254 hh (vv := fun r => some (.int r)) (hp := fun r => h12) (fun b r hg => c_X7_cellAt l G h12 b _ _ r hg) rfl rfl (Nat.le_of_ble_eq_true rfl) (Nat.le_of_ble_eq_true rfl) (Nat.le_of_ble_eq_true rfl) hl.1 dX11_span_46 (fun b19 r18 H locs hgr18 hh hm hs => ?_)
        refine W.eq (g2 := F0 m 49 ls [.int r18]) rfl ?_
        refine lv_istore (i := 5) (lv' := [(5, .int r18), (0, va_rf (some a0)), (1, .int v1), (2, .int v2), (3, .int v3), (4, .int v4)]) C.1 C.2.1 dX11_span_49 hl (by decide) rfl (fun ls hl => ?_)
        refine r_aload_n C.1 C.2.1 dX11_span_51 rfl (lv_at hl 1 rfl) ?_
        refine r_getR C hm flX11_72 dX11_span_52 hh (fun x20 _ hh => ?_)
        refine r_aload_n C.1 C.2.1 dX11_span_55 rfl (lv_at hl 1 rfl) ?_
        refine r_getR C hm flX11_40 dX11_span_56 hh (fun x21 _ hh => ?_)
        refine lv_iload_n C.1 C.2.1 dX11_span_59 rfl (lv_at hl 2 rfl) ?_
        refine r_ald_q C hm dX11_span_60 (kd := 24) (by decide) (t0 := 4) rfl hh (fun x22 _ hh => ?_)
        refine lv_iload C.1 C.2.1 dX11_span_61 (lv_at hl 0 rfl) ?_
        refine r_aload_n C.1 C.2.1 dX11_span_63 rfl (lv_at hl 1 rfl) ?_
        refine r_getR C hm flX11_34 dX11_span_64 hh (fun x23 _ hh => ?_)
        refine r_getI C hm flX11_201 dX11_span_67 hh (fun x24 _ hh => ?_)
        refine lv_iconst (v := 0) C.1 C.2.1 dX11_span_70 (by decide) ?_
        refine r_cV C X hm hs mlX11_257 mvX11_257 hh (vv := fun r => some (.long r.1)) (hp := fun r => r.2) (fun b r hg => c_X2_sumOf l G h12 b _ _ _ _ r hg) rfl rfl (Nat.le_of_ble_eq_true rfl) (Nat.le_of_ble_eq_true rfl) (Nat.le_of_ble_eq_true rfl) hl.1 dX11_span_71 (fun b26 r25 H locs hgr25 hh hm hs => ?_)
        refine W.eq (g2 := F0 m 74 ls [.long r25.1]) rfl ?_
        refine lv_lstore (i := 6) (lv' := [(6, .long r25.1), (5, .int r18), (0, va_rf (some a0)), (1, .int v1), (2, .int v2), (3, .int v3), (4, .int v4)]) C.1 C.2.1 dX11_span_74 hl (by decide) rfl (fun ls hl => ?_)
        refine lv_iconst (v := 1) C.1 C.2.1 dX11_span_76 (by decide) ?_
        refine lv_istore (i := 8) (lv' := [(8, .int 1), (6, .long r25.1), (5, .int r18), (0, va_rf (some a0)), (1, .int v1), (2, .int v2), (3, .int v3), (4, .int v4)]) C.1 C.2.1 dX11_span_77 hl (by decide) rfl (fun ls hl => ?_)
        exact B79 FUEL _ _ _ _ _ _ _ _ _ _  hm hs (lv_sub hl [3, 4, 7, 2, 1, 0] rfl) hh
      · rw [if_pos c27] at hh
        refine lv_ldc2 (v := (-9223372036854775808)) C.1 C.2.1 C.2.2.2.1 (C.2.2.2.2.1 _ (in_tbl q_894 rfl)) dX11_span_34 ?_
        exact r_lretW hQ C hr hm hs hh dX11_span_37
  unfold mX11_span at hh
  refine r_aload_n C.1 C.2.1 dX11_span_0 rfl (lv_at hl 0 rfl) ?_
  refine r_aload_n C.1 C.2.1 dX11_span_1 rfl (lv_at hl 0 rfl) ?_
  refine lv_iload_n C.1 C.2.1 dX11_span_2 rfl (lv_at hl 1 rfl) ?_
  refine lv_iload_n C.1 C.2.1 dX11_span_3 rfl (lv_at hl 2 rfl) ?_
  refine lv_iload_n C.1 C.2.1 dX11_span_4 rfl (lv_at hl 3 rfl) ?_
  refine r_cV C X hm hs mlX11_250 mvX11_250 hh (vv := fun r => some (.int r)) (hp := fun r => h) (fun b r hg => c_X11_hasCell l G h b _ _ _ r hg) rfl rfl (by simp [va_cat, vc_i, vc_l, vc_r]) (Nat.le_of_ble_eq_true rfl) (Nat.le_of_ble_eq_true rfl) hl.1 dX11_span_5 (fun b30 r29 H locs hgr29 hh hm hs => ?_)
  refine W.eq (g2 := F0 m 8 ls [.int r29, va_rf (some a0)]) rfl ?_
  refine lv_if_eq (tgt := 15) C.1 C.2.1 dX11_span_8 (by decide) (fun c31 => ?_) (fun c31 => ?_)
  · rw [if_pos c31] at hh
    refine lv_iconst (v := 1) C.1 C.2.1 dX11_span_15 (by decide) ?_
    exact B16 _ _ _ _ _ _ _ _ _ _ _  hm hs (lv_sub hl [0, 1, 2, 3, 4] rfl) hh
  · rw [if_neg c31] at hh
    refine lv_iconst (v := 0) C.1 C.2.1 dX11_span_11 (by decide) ?_
    refine lv_goto (tgt := 16) C.1 C.2.1 dX11_span_12 (by decide) ?_
    exact B16 _ _ _ _ _ _ _ _ _ _ _  hm hs (lv_sub hl [0, 1, 2, 3, 4] rfl) hh
def mX11_far_b44 (h : MHp) (a0 : Nat) (v1 : Int32) (v2 : Int32) (v3 : Int32) (v4 : Int32) (v5 : Int32) (t0 : Option Nat) (t1 : Int32) : Option (Int64 × MHp) := (pI 12 15 h t0 t1).bind fun h1 => (gI 12 15 h1 (some a0)).bind fun x2 => (if x2 = 0 then (rcv 12 h1 (some a0)).bind fun b4 => (mX11_hasTable h1 b4 v1).bind fun r3 => (if r3 = 0 then some ((-9223372036854775808), h1) else (gR 12 3 h1 (some a0)).bind fun x5 => (gAR 24 h1 x5 v1).bind fun x6 => (rcv 8 h1 x6).bind fun b8 => (mX7_cellAt h1 b8 v2 v3).bind fun r7 => (gR 12 7 h1 (some a0)).bind fun x9 => (gR 12 3 h1 (some a0)).bind fun x10 => (gAR 24 h1 x10 v1).bind fun x11 => (rcv 3 h1 x9).bind fun b13 => (mX2_sumOf h1 b13 x11 r7 v5 0).bind fun r12 => (gR 12 7 r12.2 (some a0)).bind fun x14 => (gR 12 3 r12.2 (some a0)).bind fun x15 => (gAR 24 r12.2 x15 v1).bind fun x16 => (rcv 3 r12.2 x14).bind fun b18 => (mX2_sumOf r12.2 b18 x16 r7 v4 0).bind fun r17 => some ((r12.1 - r17.1), r17.2)) else some ((-9223372036854775808), h1))
def mX11_far_b43 (h : MHp) (a0 : Nat) (v1 : Int32) (v2 : Int32) (v3 : Int32) (v4 : Int32) (v5 : Int32) (t0 : Option Nat) : Option (Int64 × MHp) := mX11_far_b44 h a0 v1 v2 v3 v4 v5 t0 2
def mX11_far (h : MHp) (a0 : Nat) (a1 : Int32) (a2 : Int32) (a3 : Int32) (a4 : Int32) (a5 : Int32) : Option (Int64 × MHp) := (rcv 12 h (some a0)).bind fun b22 => (mX11_hasCell h b22 a1 a2 a3).bind fun r21 => (if r21 = 0 then mX11_far_b44 h a0 a1 a2 a3 a4 a5 (some a0) 1 else (gR 12 2 h (some a0)).bind fun x23 => (rcv 10 h x23).bind fun b25 => (mX9_isDay h b25 a4).bind fun r24 => (if r24 = 0 then mX11_far_b43 h a0 a1 a2 a3 a4 a5 (some a0) else (gR 12 2 h (some a0)).bind fun x26 => (rcv 10 h x26).bind fun b28 => (mX9_isDay h b28 a5).bind fun r27 => (if r27 = 0 then mX11_far_b43 h a0 a1 a2 a3 a4 a5 (some a0) else mX11_far_b44 h a0 a1 a2 a3 a4 a5 (some a0) 0)))
set_option maxRecDepth 100000 in
set_option maxHeartbeats 4000000 in
theorem c_X11_far (l : Launch) (G : Env0) (h : MHp) (a0 : Nat) (a1 : Int32) (a2 : Int32) (a3 : Int32) (a4 : Int32) (a5 : Int32) (res : Int64 × MHp) (hh : mX11_far h a0 a1 a2 a3 a4 a5 = some res) : MG l yX11_far cX11_far 7 (some .long) 5 123 0 0 G h [.ref a0, .int a1, .int a2, .int a3, .int a4, .int a5] (some (.long res.1)) (res.2) := by
  refine MG_of (own := RX11) (plainFor_of_name (by decide)) rfl (Nat.le_of_ble_eq_true rfl) ?_
  intro p e s m args below meth c Q ls hQ C X hin hm hs hl hr
  have hl : lv_has ls 7 [(0, va_rf (some a0)), (1, .int a1), (2, .int a2), (3, .int a3), (4, .int a4), (5, .int a5)] := hl
  have B44 : ∀ (h : MHp) (H : Heap) (locs : List Loc) (ls : Array Slot) (a0 : Nat) (v1 : Int32) (v2 : Int32) (v3 : Int32) (v4 : Int32) (v5 : Int32) (t0 : Option Nat) (t1 : Int32) , mHp (gD G) (gC G) (gB G) h H → va_S (fun q => gB G ≤ q) s.heap H locs → lv_has ls 7 [(0, va_rf (some a0)), (1, .int v1), (2, .int v2), (3, .int v3), (4, .int v4), (5, .int v5)] → mX11_far_b44 h a0 v1 v2 v3 v4 v5 t0 t1 = some res → W p l e ({ frames := 5, cells := 0, slots := 0, locals := 123 }) s m args below meth c H locs 0 0 Q (F0 m 44 ls [.int t1, va_rf t0]) := by
    intro h H locs ls a0 v1 v2 v3 v4 v5 t0 t1 hm hs hl hh
    unfold mX11_far_b44 at hh
    refine r_putI C hm hs flX11_118 (Or.inl fm_12_15) dX11_far_44 hh (fun h1 H locs _ hh hm hs => ?_)
    refine r_aload_n C.1 C.2.1 dX11_far_47 rfl (lv_at hl 0 rfl) ?_
    refine r_getI C hm flX11_118 dX11_far_48 hh (fun x2 _ hh => ?_)
    refine lv_if_ne (tgt := 62) C.1 C.2.1 dX11_far_51 (by decide) (fun c20 => ?_) (fun c20 => ?_)
    · rw [if_neg c20] at hh
      refine lv_ldc2 (v := (-9223372036854775808)) C.1 C.2.1 C.2.2.2.1 (C.2.2.2.2.1 _ (in_tbl q_894 rfl)) dX11_far_62 ?_
      exact r_lretW hQ C hr hm hs hh dX11_far_65
    · rw [if_pos c20] at hh
      refine r_aload_n C.1 C.2.1 dX11_far_54 rfl (lv_at hl 0 rfl) ?_
      refine lv_iload_n C.1 C.2.1 dX11_far_55 rfl (lv_at hl 1 rfl) ?_
      refine r_cV C X hm hs mlX11_244 mvX11_244 hh (vv := fun r => some (.int r)) (hp := fun r => h1) (fun b r hg => c_X11_hasTable l G h1 b _ r hg) rfl rfl (Nat.le_of_ble_eq_true rfl) (Nat.le_of_ble_eq_true rfl) (Nat.le_of_ble_eq_true rfl) hl.1 dX11_far_56 (fun b4 r3 H locs hgr3 hh hm hs => ?_)
      refine W.eq (g2 := F0 m 59 ls [.int r3]) rfl ?_
      refine lv_if_ne (tgt := 66) C.1 C.2.1 dX11_far_59 (by decide) (fun c19 => ?_) (fun c19 => ?_)
      · rw [if_neg c19] at hh
        refine r_aload_n C.1 C.2.1 dX11_far_66 rfl (lv_at hl 0 rfl) ?_
        refine r_getR C hm flX11_40 dX11_far_67 hh (fun x5 _ hh => ?_)
        refine lv_iload_n C.1 C.2.1 dX11_far_70 rfl (lv_at hl 1 rfl) ?_
        refine r_ald_q C hm dX11_far_71 (kd := 24) (by decide) (t0 := 4) rfl hh (fun x6 _ hh => ?_)
        refine lv_iload_n C.1 C.2.1 dX11_far_72 rfl (lv_at hl 2 rfl) ?_
        refine lv_iload_n C.1 C.2.1 dX11_far_73 rfl (lv_at hl 3 rfl) ?_
        refine r_cV C X hm hs mlX11_254 mvX11_254 hh (vv := fun r => some (.int r)) (hp := fun r => h1) (fun b r hg => c_X7_cellAt l G h1 b _ _ r hg) rfl rfl (Nat.le_of_ble_eq_true rfl) (Nat.le_of_ble_eq_true rfl) (Nat.le_of_ble_eq_true rfl) hl.1 dX11_far_74 (fun b8 r7 H locs hgr7 hh hm hs => ?_)
        refine W.eq (g2 := F0 m 77 ls [.int r7]) rfl ?_
        refine lv_istore (i := 6) (lv' := [(6, .int r7), (0, va_rf (some a0)), (1, .int v1), (2, .int v2), (3, .int v3), (4, .int v4), (5, .int v5)]) C.1 C.2.1 dX11_far_77 hl (by decide) rfl (fun ls hl => ?_)
        refine r_aload_n C.1 C.2.1 dX11_far_79 rfl (lv_at hl 1 rfl) ?_
        refine r_getR C hm flX11_72 dX11_far_80 hh (fun x9 _ hh => ?_)
        refine r_aload_n C.1 C.2.1 dX11_far_83 rfl (lv_at hl 1 rfl) ?_
        refine r_getR C hm flX11_40 dX11_far_84 hh (fun x10 _ hh => ?_)
        refine lv_iload_n C.1 C.2.1 dX11_far_87 rfl (lv_at hl 2 rfl) ?_
        refine r_ald_q C hm dX11_far_88 (kd := 24) (by decide) (t0 := 4) rfl hh (fun x11 _ hh => ?_)
        refine lv_iload C.1 C.2.1 dX11_far_89 (lv_at hl 0 rfl) ?_
        refine lv_iload C.1 C.2.1 dX11_far_91 (lv_at hl 6 rfl) ?_
        refine lv_iconst (v := 0) C.1 C.2.1 dX11_far_93 (by decide) ?_
        refine r_cV C X hm hs mlX11_257 mvX11_257 hh (vv := fun r => some (.long r.1)) (hp := fun r => r.2) (fun b r hg => c_X2_sumOf l G h1 b _ _ _ _ r hg) rfl rfl (Nat.le_of_ble_eq_true rfl) (Nat.le_of_ble_eq_true rfl) (Nat.le_of_ble_eq_true rfl) hl.1 dX11_far_94 (fun b13 r12 H locs hgr12 hh hm hs => ?_)
        refine W.eq (g2 := F0 m 97 ls [.long r12.1]) rfl ?_
        refine r_aload_n C.1 C.2.1 dX11_far_97 rfl (lv_at hl 1 rfl) ?_
        refine r_getR C hm flX11_72 dX11_far_98 hh (fun x14 _ hh => ?_)
        refine r_aload_n C.1 C.2.1 dX11_far_101 rfl (lv_at hl 1 rfl) ?_
        refine r_getR C hm flX11_40 dX11_far_102 hh (fun x15 _ hh => ?_)
        refine lv_iload_n C.1 C.2.1 dX11_far_105 rfl (lv_at hl 2 rfl) ?_
        refine r_ald_q C hm dX11_far_106 (kd := 24) (by decide) (t0 := 4) rfl hh (fun x16 _ hh => ?_)
        refine lv_iload C.1 C.2.1 dX11_far_107 (lv_at hl 0 rfl) ?_
        refine lv_iload C.1 C.2.1 dX11_far_109 (lv_at hl 5 rfl) ?_
        refine lv_iconst (v := 0) C.1 C.2.1 dX11_far_111 (by decide) ?_
        refine r_cV C X hm hs mlX11_257 mvX11_257 hh (vv := fun r => some (.long r.1)) (hp := fun r => r.2) (fun b r hg => c_X2_sumOf l G r12.2 b _ _ _ _ r hg) rfl rfl (Nat.le_of_ble_eq_true rfl) (Nat.le_of_ble_eq_true rfl) (Nat.le_of_ble_eq_true rfl) hl.1 dX11_far_112 (fun b18 r17 H locs hgr17 hh hm hs => ?_)
        refine W.eq (g2 := F0 m 115 ls [.long r17.1, .long r12.1]) rfl ?_
        refine lv_lsub C.1 C.2.1 dX11_far_115 ?_
        exact r_lretW hQ C hr hm hs hh dX11_far_116
      · rw [if_pos c19] at hh
        refine lv_ldc2 (v := (-9223372036854775808)) C.1 C.2.1 C.2.2.2.1 (C.2.2.2.2.1 _ (in_tbl q_894 rfl)) dX11_far_62 ?_
        exact r_lretW hQ C hr hm hs hh dX11_far_65
  have B43 : ∀ (h : MHp) (H : Heap) (locs : List Loc) (ls : Array Slot) (a0 : Nat) (v1 : Int32) (v2 : Int32) (v3 : Int32) (v4 : Int32) (v5 : Int32) (t0 : Option Nat) , mHp (gD G) (gC G) (gB G) h H → va_S (fun q => gB G ≤ q) s.heap H locs → lv_has ls 7 [(0, va_rf (some a0)), (1, .int v1), (2, .int v2), (3, .int v3), (4, .int v4), (5, .int v5)] → mX11_far_b43 h a0 v1 v2 v3 v4 v5 t0 = some res → W p l e ({ frames := 5, cells := 0, slots := 0, locals := 123 }) s m args below meth c H locs 0 0 Q (F0 m 43 ls [va_rf t0]) := by
    intro h H locs ls a0 v1 v2 v3 v4 v5 t0 hm hs hl hh
    unfold mX11_far_b43 at hh
    refine lv_iconst (v := 2) C.1 C.2.1 dX11_far_43 (by decide) ?_
    exact B44 _ _ _ _ _ _ _ _ _ _ _ _  hm hs (lv_sub hl [0, 1, 2, 3, 4, 5] rfl) hh
  unfold mX11_far at hh
  refine r_aload_n C.1 C.2.1 dX11_far_0 rfl (lv_at hl 0 rfl) ?_
  refine r_aload_n C.1 C.2.1 dX11_far_1 rfl (lv_at hl 0 rfl) ?_
  refine lv_iload_n C.1 C.2.1 dX11_far_2 rfl (lv_at hl 1 rfl) ?_
  refine lv_iload_n C.1 C.2.1 dX11_far_3 rfl (lv_at hl 2 rfl) ?_
  refine lv_iload_n C.1 C.2.1 dX11_far_4 rfl (lv_at hl 3 rfl) ?_
  refine r_cV C X hm hs mlX11_250 mvX11_250 hh (vv := fun r => some (.int r)) (hp := fun r => h) (fun b r hg => c_X11_hasCell l G h b _ _ _ r hg) rfl rfl (by simp [va_cat, vc_i, vc_l, vc_r]) (Nat.le_of_ble_eq_true rfl) (Nat.le_of_ble_eq_true rfl) hl.1 dX11_far_5 (fun b22 r21 H locs hgr21 hh hm hs => ?_)
  refine W.eq (g2 := F0 m 8 ls [.int r21, va_rf (some a0)]) rfl ?_
  refine lv_if_ne (tgt := 15) C.1 C.2.1 dX11_far_8 (by decide) (fun c31 => ?_) (fun c31 => ?_)
  · rw [if_neg c31] at hh
    refine r_aload_n C.1 C.2.1 dX11_far_15 rfl (lv_at hl 0 rfl) ?_
    refine r_getR C hm flX11_34 dX11_far_16 hh (fun x23 _ hh => ?_)
    refine lv_iload C.1 C.2.1 dX11_far_19 (lv_at hl 4 rfl) ?_
    refine r_cV C X hm hs mlX11_204 mvX11_204 hh (vv := fun r => some (.int r)) (hp := fun r => h) (fun b r hg => c_X9_isDay l G h b _ r hg) rfl rfl (by simp [va_cat, vc_i, vc_l, vc_r]) (Nat.le_of_ble_eq_true rfl) (Nat.le_of_ble_eq_true rfl) hl.1 dX11_far_21 (fun b25 r24 H locs hgr24 hh hm hs => ?_)
    refine W.eq (g2 := F0 m 24 ls [.int r24, va_rf (some a0)]) rfl ?_
    refine lv_if_eq (tgt := 43) C.1 C.2.1 dX11_far_24 (by decide) (fun c30 => ?_) (fun c30 => ?_)
    · rw [if_pos c30] at hh
      exact B43 _ _ _ _ _ _ _ _ _ _ _  hm hs (lv_sub hl [0, 1, 2, 3, 4, 5] rfl) hh
    · rw [if_neg c30] at hh
      refine r_aload_n C.1 C.2.1 dX11_far_27 rfl (lv_at hl 0 rfl) ?_
      refine r_getR C hm flX11_34 dX11_far_28 hh (fun x26 _ hh => ?_)
      refine lv_iload C.1 C.2.1 dX11_far_31 (lv_at hl 5 rfl) ?_
      refine r_cV C X hm hs mlX11_204 mvX11_204 hh (vv := fun r => some (.int r)) (hp := fun r => h) (fun b r hg => c_X9_isDay l G h b _ r hg) rfl rfl (by simp [va_cat, vc_i, vc_l, vc_r]) (Nat.le_of_ble_eq_true rfl) (Nat.le_of_ble_eq_true rfl) hl.1 dX11_far_33 (fun b28 r27 H locs hgr27 hh hm hs => ?_)
      refine W.eq (g2 := F0 m 36 ls [.int r27, va_rf (some a0)]) rfl ?_
      refine lv_if_eq (tgt := 43) C.1 C.2.1 dX11_far_36 (by decide) (fun c29 => ?_) (fun c29 => ?_)
      · rw [if_pos c29] at hh
        exact B43 _ _ _ _ _ _ _ _ _ _ _  hm hs (lv_sub hl [0, 1, 2, 3, 4, 5] rfl) hh
      · rw [if_neg c29] at hh
        refine lv_iconst (v := 0) C.1 C.2.1 dX11_far_39 (by decide) ?_
        refine lv_goto (tgt := 44) C.1 C.2.1 dX11_far_40 (by decide) ?_
        exact B44 _ _ _ _ _ _ _ _ _ _ _ _  hm hs (lv_sub hl [0, 1, 2, 3, 4, 5] rfl) hh
  · rw [if_pos c31] at hh
    refine lv_iconst (v := 1) C.1 C.2.1 dX11_far_11 (by decide) ?_
    refine lv_goto (tgt := 44) C.1 C.2.1 dX11_far_12 (by decide) ?_
    exact B44 _ _ _ _ _ _ _ _ _ _ _ _  hm hs (lv_sub hl [0, 1, 2, 3, 4, 5] rfl) hh
def mX11_known_b55 (h : MHp) (a0 : Nat) (v1 : Int32) (v2 : Int32) (v3 : Int32) (t0 : Option Nat) (t1 : Int32) : Option (Int32 × MHp) := (pI 12 15 h t0 t1).bind fun h1 => (gI 12 15 h1 (some a0)).bind fun x2 => (if x2 = 0 then (gR 12 8 h1 (some a0)).bind fun x3 => (rcv 1 h1 x3).bind fun b5 => (mX0_know h1 b5 v1 v2 v3).bind fun r4 => some (1, r4) else some (0, h1))
def mX11_known (h : MHp) (a0 : Nat) (a1 : Int32) (a2 : Int32) (a3 : Int32) : Option (Int32 × MHp) := (gR 12 2 h (some a0)).bind fun x7 => (gR 10 5 h x7).bind fun x8 => (rcv 2 h x8).bind fun b10 => (mX1_hasValue h b10 a1 a2).bind fun r9 => (if r9 = 0 then mX11_known_b55 h a0 a1 a2 a3 (some a0) 1 else (mX11_isWithin h a3 0 1000000).bind fun r11 => (if r11 = 0 then mX11_known_b55 h a0 a1 a2 a3 (some a0) 2 else (gR 12 2 h (some a0)).bind fun x12 => (gR 10 5 h x12).bind fun x13 => (rcv 2 h x13).bind fun b15 => (mX1_topOf h b15 a1).bind fun r14 => (if r14 ≤ 2 then mX11_known_b55 h a0 a1 a2 a3 (some a0) 0 else mX11_known_b55 h a0 a1 a2 a3 (some a0) 5)))
set_option maxRecDepth 100000 in
set_option maxHeartbeats 4000000 in
theorem c_X11_known (l : Launch) (G : Env0) (h : MHp) (a0 : Nat) (a1 : Int32) (a2 : Int32) (a3 : Int32) (res : Int32 × MHp) (hh : mX11_known h a0 a1 a2 a3 = some res) : MG l yX11_known cX11_known 4 (some .boolean) 3 64 0 0 G h [.ref a0, .int a1, .int a2, .int a3] (some (.int res.1)) (res.2) := by
  refine MG_of (own := RX11) (plainFor_of_name (by decide)) rfl (Nat.le_of_ble_eq_true rfl) ?_
  intro p e s m args below meth c Q ls hQ C X hin hm hs hl hr
  have hl : lv_has ls 4 [(0, va_rf (some a0)), (1, .int a1), (2, .int a2), (3, .int a3)] := hl
  have B55 : ∀ (h : MHp) (H : Heap) (locs : List Loc) (ls : Array Slot) (a0 : Nat) (v1 : Int32) (v2 : Int32) (v3 : Int32) (t0 : Option Nat) (t1 : Int32) , mHp (gD G) (gC G) (gB G) h H → va_S (fun q => gB G ≤ q) s.heap H locs → lv_has ls 4 [(0, va_rf (some a0)), (1, .int v1), (2, .int v2), (3, .int v3)] → mX11_known_b55 h a0 v1 v2 v3 t0 t1 = some res → W p l e ({ frames := 3, cells := 0, slots := 0, locals := 64 }) s m args below meth c H locs 0 0 Q (F0 m 55 ls [.int t1, va_rf t0]) := by
    intro h H locs ls a0 v1 v2 v3 t0 t1 hm hs hl hh
    unfold mX11_known_b55 at hh
    refine r_putI C hm hs flX11_118 (Or.inl fm_12_15) dX11_known_55 hh (fun h1 H locs _ hh hm hs => ?_)
    refine r_aload_n C.1 C.2.1 dX11_known_58 rfl (lv_at hl 0 rfl) ?_
    refine r_getI C hm flX11_118 dX11_known_59 hh (fun x2 _ hh => ?_)
    refine lv_if_eq (tgt := 67) C.1 C.2.1 dX11_known_62 (by decide) (fun c6 => ?_) (fun c6 => ?_)
    · rw [if_pos c6] at hh
      refine r_aload_n C.1 C.2.1 dX11_known_67 rfl (lv_at hl 0 rfl) ?_
      refine r_getR C hm flX11_81 dX11_known_68 hh (fun x3 _ hh => ?_)
      refine lv_iload_n C.1 C.2.1 dX11_known_71 rfl (lv_at hl 1 rfl) ?_
      refine lv_iload_n C.1 C.2.1 dX11_known_72 rfl (lv_at hl 2 rfl) ?_
      refine lv_iload_n C.1 C.2.1 dX11_known_73 rfl (lv_at hl 3 rfl) ?_
      refine r_cV C X hm hs mlX11_277 mvX11_277 hh (vv := fun r => none) (hp := fun r => r) (fun b r hg => c_X0_know l G h1 b _ _ _ r hg) rfl rfl (Nat.le_of_ble_eq_true rfl) (Nat.le_of_ble_eq_true rfl) (Nat.le_of_ble_eq_true rfl) hl.1 dX11_known_74 (fun b5 r4 H locs hgr4 hh hm hs => ?_)
      refine W.eq (g2 := F0 m 77 ls []) rfl ?_
      refine lv_iconst (v := 1) C.1 C.2.1 dX11_known_77 (by decide) ?_
      exact r_bretW hQ C hr hm hs (by decide) hh dX11_known_78
    · rw [if_neg c6] at hh
      refine lv_iconst (v := 0) C.1 C.2.1 dX11_known_65 (by decide) ?_
      exact r_bretW hQ C hr hm hs (by decide) hh dX11_known_66
  unfold mX11_known at hh
  refine r_aload_n C.1 C.2.1 dX11_known_0 rfl (lv_at hl 0 rfl) ?_
  refine r_aload_n C.1 C.2.1 dX11_known_1 rfl (lv_at hl 0 rfl) ?_
  refine r_getR C hm flX11_34 dX11_known_2 hh (fun x7 _ hh => ?_)
  refine r_getR C hm flX11_125 dX11_known_5 hh (fun x8 _ hh => ?_)
  refine lv_iload_n C.1 C.2.1 dX11_known_8 rfl (lv_at hl 1 rfl) ?_
  refine lv_iload_n C.1 C.2.1 dX11_known_9 rfl (lv_at hl 2 rfl) ?_
  refine r_cV C X hm hs mlX11_270 mvX11_270 hh (vv := fun r => some (.int r)) (hp := fun r => h) (fun b r hg => c_X1_hasValue l G h b _ _ r hg) rfl rfl (by simp [va_cat, vc_i, vc_l, vc_r]) (Nat.le_of_ble_eq_true rfl) (Nat.le_of_ble_eq_true rfl) hl.1 dX11_known_10 (fun b10 r9 H locs hgr9 hh hm hs => ?_)
  refine W.eq (g2 := F0 m 13 ls [.int r9, va_rf (some a0)]) rfl ?_
  refine lv_if_ne (tgt := 20) C.1 C.2.1 dX11_known_13 (by decide) (fun c18 => ?_) (fun c18 => ?_)
  · rw [if_neg c18] at hh
    refine lv_iload_n C.1 C.2.1 dX11_known_20 rfl (lv_at hl 3 rfl) ?_
    refine lv_iconst (v := 0) C.1 C.2.1 dX11_known_21 (by decide) ?_
    refine lv_ldcw (v := 1000000) C.1 C.2.1 C.2.2.2.1 (C.2.2.2.2.1 _ (in_tbl q_941 rfl)) dX11_known_22 ?_
    refine r_cS C X hm hs mlX11_188 msX11_188 hh (vv := fun r => some (.int r)) (hp := fun r => h) (fun r hg => c_X11_isWithin l G h _ _ _ r hg) rfl rfl (by simp [va_cat, vc_i, vc_l, vc_r]) (Nat.le_of_ble_eq_true rfl) (Nat.le_of_ble_eq_true rfl) hl.1 dX11_known_25 (fun r11 H locs hgr11 hh hm hs => ?_)
    refine W.eq (g2 := F0 m 28 ls [.int r11, va_rf (some a0)]) rfl ?_
    refine lv_if_ne (tgt := 35) C.1 C.2.1 dX11_known_28 (by decide) (fun c17 => ?_) (fun c17 => ?_)
    · rw [if_neg c17] at hh
      refine r_aload_n C.1 C.2.1 dX11_known_35 rfl (lv_at hl 0 rfl) ?_
      refine r_getR C hm flX11_34 dX11_known_36 hh (fun x12 _ hh => ?_)
      refine r_getR C hm flX11_125 dX11_known_39 hh (fun x13 _ hh => ?_)
      refine lv_iload_n C.1 C.2.1 dX11_known_42 rfl (lv_at hl 1 rfl) ?_
      refine r_cV C X hm hs mlX11_274 mvX11_274 hh (vv := fun r => some (.int r)) (hp := fun r => h) (fun b r hg => c_X1_topOf l G h b _ r hg) rfl rfl (by simp [va_cat, vc_i, vc_l, vc_r]) (Nat.le_of_ble_eq_true rfl) (Nat.le_of_ble_eq_true rfl) hl.1 dX11_known_43 (fun b15 r14 H locs hgr14 hh hm hs => ?_)
      refine W.eq (g2 := F0 m 46 ls [.int r14, va_rf (some a0)]) rfl ?_
      refine lv_iconst (v := 2) C.1 C.2.1 dX11_known_46 (by decide) ?_
      refine lv_icmp_le (tgt := 54) C.1 C.2.1 dX11_known_47 (by decide) (fun c16 => ?_) (fun c16 => ?_)
      · rw [if_pos c16] at hh
        refine lv_iconst (v := 0) C.1 C.2.1 dX11_known_54 (by decide) ?_
        exact B55 _ _ _ _ _ _ _ _ _ _  hm hs (lv_sub hl [0, 1, 2, 3] rfl) hh
      · rw [if_neg c16] at hh
        refine lv_iconst (v := 5) C.1 C.2.1 dX11_known_50 (by decide) ?_
        refine lv_goto (tgt := 55) C.1 C.2.1 dX11_known_51 (by decide) ?_
        exact B55 _ _ _ _ _ _ _ _ _ _  hm hs (lv_sub hl [0, 1, 2, 3] rfl) hh
    · rw [if_pos c17] at hh
      refine lv_iconst (v := 2) C.1 C.2.1 dX11_known_31 (by decide) ?_
      refine lv_goto (tgt := 55) C.1 C.2.1 dX11_known_32 (by decide) ?_
      exact B55 _ _ _ _ _ _ _ _ _ _  hm hs (lv_sub hl [0, 1, 2, 3] rfl) hh
  · rw [if_pos c18] at hh
    refine lv_iconst (v := 1) C.1 C.2.1 dX11_known_16 (by decide) ?_
    refine lv_goto (tgt := 55) C.1 C.2.1 dX11_known_17 (by decide) ?_
    exact B55 _ _ _ _ _ _ _ _ _ _  hm hs (lv_sub hl [0, 1, 2, 3] rfl) hh
def mX11_agreed_b31 (h : MHp) (a0 : Nat) (v1 : Int32) (v2 : Int32) (v3 : Int32) (v4 : Int32) (t0 : Option Nat) (t1 : Int32) : Option (Int64 × MHp) := (pI 12 15 h t0 t1).bind fun h1 => (gI 12 15 h1 (some a0)).bind fun x2 => (if x2 = 0 then (rcv 12 h1 (some a0)).bind fun b4 => (mX11_hasTable h1 b4 v1).bind fun r3 => (if r3 = 0 then some ((-9223372036854775808), h1) else (gR 12 8 h1 (some a0)).bind fun x5 => (gR 12 3 h1 (some a0)).bind fun x6 => (gAR 24 h1 x6 v1).bind fun x7 => (gR 12 3 h1 (some a0)).bind fun x8 => (gAR 24 h1 x8 v1).bind fun x9 => (rcv 8 h1 x9).bind fun b11 => (mX7_cellAt h1 b11 v2 v3).bind fun r10 => (rcv 1 h1 x5).bind fun b13 => (mX0_reckon h1 b13 x7 r10).bind fun r12 => (if v4 = 0 then (gR 12 8 r12 (some a0)).bind fun x14 => (gL 1 2 r12 x14).bind fun x15 => some (x15, r12) else (gR 12 8 r12 (some a0)).bind fun x16 => (gL 1 3 r12 x16).bind fun x17 => some (x17, r12))) else some ((-9223372036854775808), h1))
def mX11_agreed (h : MHp) (a0 : Nat) (a1 : Int32) (a2 : Int32) (a3 : Int32) (a4 : Int32) : Option (Int64 × MHp) := (rcv 12 h (some a0)).bind fun b22 => (mX11_hasCell h b22 a1 a2 a3).bind fun r21 => (if r21 = 0 then mX11_agreed_b31 h a0 a1 a2 a3 a4 (some a0) 1 else (gR 12 8 h (some a0)).bind fun x23 => (gI 1 1 h x23).bind fun x24 => (if x24 = (-1) then mX11_agreed_b31 h a0 a1 a2 a3 a4 (some a0) 5 else mX11_agreed_b31 h a0 a1 a2 a3 a4 (some a0) 0))
set_option maxRecDepth 100000 in
set_option maxHeartbeats 4000000 in
theorem c_X11_agreed (l : Launch) (G : Env0) (h : MHp) (a0 : Nat) (a1 : Int32) (a2 : Int32) (a3 : Int32) (a4 : Int32) (res : Int64 × MHp) (hh : mX11_agreed h a0 a1 a2 a3 a4 = some res) : MG l yX11_agreed cX11_agreed 5 (some .long) 6 144 0 0 G h [.ref a0, .int a1, .int a2, .int a3, .int a4] (some (.long res.1)) (res.2) := by
  refine MG_of (own := RX11) (plainFor_of_name (by decide)) rfl (Nat.le_of_ble_eq_true rfl) ?_
  intro p e s m args below meth c Q ls hQ C X hin hm hs hl hr
  have hl : lv_has ls 5 [(0, va_rf (some a0)), (1, .int a1), (2, .int a2), (3, .int a3), (4, .int a4)] := hl
  have B31 : ∀ (h : MHp) (H : Heap) (locs : List Loc) (ls : Array Slot) (a0 : Nat) (v1 : Int32) (v2 : Int32) (v3 : Int32) (v4 : Int32) (t0 : Option Nat) (t1 : Int32) , mHp (gD G) (gC G) (gB G) h H → va_S (fun q => gB G ≤ q) s.heap H locs → lv_has ls 5 [(0, va_rf (some a0)), (1, .int v1), (2, .int v2), (3, .int v3), (4, .int v4)] → mX11_agreed_b31 h a0 v1 v2 v3 v4 t0 t1 = some res → W p l e ({ frames := 6, cells := 0, slots := 0, locals := 144 }) s m args below meth c H locs 0 0 Q (F0 m 31 ls [.int t1, va_rf t0]) := by
    intro h H locs ls a0 v1 v2 v3 v4 t0 t1 hm hs hl hh
    unfold mX11_agreed_b31 at hh
    refine r_putI C hm hs flX11_118 (Or.inl fm_12_15) dX11_agreed_31 hh (fun h1 H locs _ hh hm hs => ?_)
    refine r_aload_n C.1 C.2.1 dX11_agreed_34 rfl (lv_at hl 0 rfl) ?_
    refine r_getI C hm flX11_118 dX11_agreed_35 hh (fun x2 _ hh => ?_)
    refine lv_if_ne (tgt := 49) C.1 C.2.1 dX11_agreed_38 (by decide) (fun c20 => ?_) (fun c20 => ?_)
    · rw [if_neg c20] at hh
      refine lv_ldc2 (v := (-9223372036854775808)) C.1 C.2.1 C.2.2.2.1 (C.2.2.2.2.1 _ (in_tbl q_894 rfl)) dX11_agreed_49 ?_
      exact r_lretW hQ C hr hm hs hh dX11_agreed_52
    · rw [if_pos c20] at hh
      refine r_aload_n C.1 C.2.1 dX11_agreed_41 rfl (lv_at hl 0 rfl) ?_
      refine lv_iload_n C.1 C.2.1 dX11_agreed_42 rfl (lv_at hl 1 rfl) ?_
      refine r_cV C X hm hs mlX11_244 mvX11_244 hh (vv := fun r => some (.int r)) (hp := fun r => h1) (fun b r hg => c_X11_hasTable l G h1 b _ r hg) rfl rfl (Nat.le_of_ble_eq_true rfl) (Nat.le_of_ble_eq_true rfl) (Nat.le_of_ble_eq_true rfl) hl.1 dX11_agreed_43 (fun b4 r3 H locs hgr3 hh hm hs => ?_)
      refine W.eq (g2 := F0 m 46 ls [.int r3]) rfl ?_
      refine lv_if_ne (tgt := 53) C.1 C.2.1 dX11_agreed_46 (by decide) (fun c19 => ?_) (fun c19 => ?_)
      · rw [if_neg c19] at hh
        refine r_aload_n C.1 C.2.1 dX11_agreed_53 rfl (lv_at hl 0 rfl) ?_
        refine r_getR C hm flX11_81 dX11_agreed_54 hh (fun x5 _ hh => ?_)
        refine r_aload_n C.1 C.2.1 dX11_agreed_57 rfl (lv_at hl 0 rfl) ?_
        refine r_getR C hm flX11_40 dX11_agreed_58 hh (fun x6 _ hh => ?_)
        refine lv_iload_n C.1 C.2.1 dX11_agreed_61 rfl (lv_at hl 1 rfl) ?_
        refine r_ald_q C hm dX11_agreed_62 (kd := 24) (by decide) (t0 := 4) rfl hh (fun x7 _ hh => ?_)
        refine r_aload_n C.1 C.2.1 dX11_agreed_63 rfl (lv_at hl 0 rfl) ?_
        refine r_getR C hm flX11_40 dX11_agreed_64 hh (fun x8 _ hh => ?_)
        refine lv_iload_n C.1 C.2.1 dX11_agreed_67 rfl (lv_at hl 1 rfl) ?_
        refine r_ald_q C hm dX11_agreed_68 (kd := 24) (by decide) (t0 := 4) rfl hh (fun x9 _ hh => ?_)
        refine lv_iload_n C.1 C.2.1 dX11_agreed_69 rfl (lv_at hl 2 rfl) ?_
        refine lv_iload_n C.1 C.2.1 dX11_agreed_70 rfl (lv_at hl 3 rfl) ?_
        refine r_cV C X hm hs mlX11_254 mvX11_254 hh (vv := fun r => some (.int r)) (hp := fun r => h1) (fun b r hg => c_X7_cellAt l G h1 b _ _ r hg) rfl rfl (by simp [va_cat, vc_i, vc_l, vc_r]) (Nat.le_of_ble_eq_true rfl) (Nat.le_of_ble_eq_true rfl) hl.1 dX11_agreed_71 (fun b11 r10 H locs hgr10 hh hm hs => ?_)
        refine W.eq (g2 := F0 m 74 ls [.int r10, va_rf x7, va_rf x5]) rfl ?_
        refine r_cV C X hm hs mlX11_284 mvX11_284 hh (vv := fun r => none) (hp := fun r => r) (fun b r hg => c_X0_reckon l G h1 b _ _ r hg) rfl rfl (Nat.le_of_ble_eq_true rfl) (Nat.le_of_ble_eq_true rfl) (Nat.le_of_ble_eq_true rfl) hl.1 dX11_agreed_74 (fun b13 r12 H locs hgr12 hh hm hs => ?_)
        refine W.eq (g2 := F0 m 77 ls []) rfl ?_
        refine lv_iload C.1 C.2.1 dX11_agreed_77 (lv_at hl 4 rfl) ?_
        refine lv_if_eq (tgt := 92) C.1 C.2.1 dX11_agreed_79 (by decide) (fun c18 => ?_) (fun c18 => ?_)
        · rw [if_pos c18] at hh
          refine r_aload_n C.1 C.2.1 dX11_agreed_92 rfl (lv_at hl 0 rfl) ?_
          refine r_getR C hm flX11_81 dX11_agreed_93 hh (fun x14 _ hh => ?_)
          refine r_getL C hm flX11_292 dX11_agreed_96 hh (fun x15 _ hh => ?_)
          exact r_lretW hQ C hr hm hs hh dX11_agreed_99
        · rw [if_neg c18] at hh
          refine r_aload_n C.1 C.2.1 dX11_agreed_82 rfl (lv_at hl 0 rfl) ?_
          refine r_getR C hm flX11_81 dX11_agreed_83 hh (fun x16 _ hh => ?_)
          refine r_getL C hm flX11_288 dX11_agreed_86 hh (fun x17 _ hh => ?_)
          refine lv_goto (tgt := 99) C.1 C.2.1 dX11_agreed_89 (by decide) ?_
          exact r_lretW hQ C hr hm hs hh dX11_agreed_99
      · rw [if_pos c19] at hh
        refine lv_ldc2 (v := (-9223372036854775808)) C.1 C.2.1 C.2.2.2.1 (C.2.2.2.2.1 _ (in_tbl q_894 rfl)) dX11_agreed_49 ?_
        exact r_lretW hQ C hr hm hs hh dX11_agreed_52
  unfold mX11_agreed at hh
  refine r_aload_n C.1 C.2.1 dX11_agreed_0 rfl (lv_at hl 0 rfl) ?_
  refine r_aload_n C.1 C.2.1 dX11_agreed_1 rfl (lv_at hl 0 rfl) ?_
  refine lv_iload_n C.1 C.2.1 dX11_agreed_2 rfl (lv_at hl 1 rfl) ?_
  refine lv_iload_n C.1 C.2.1 dX11_agreed_3 rfl (lv_at hl 2 rfl) ?_
  refine lv_iload_n C.1 C.2.1 dX11_agreed_4 rfl (lv_at hl 3 rfl) ?_
  refine r_cV C X hm hs mlX11_250 mvX11_250 hh (vv := fun r => some (.int r)) (hp := fun r => h) (fun b r hg => c_X11_hasCell l G h b _ _ _ r hg) rfl rfl (by simp [va_cat, vc_i, vc_l, vc_r]) (Nat.le_of_ble_eq_true rfl) (Nat.le_of_ble_eq_true rfl) hl.1 dX11_agreed_5 (fun b22 r21 H locs hgr21 hh hm hs => ?_)
  refine W.eq (g2 := F0 m 8 ls [.int r21, va_rf (some a0)]) rfl ?_
  refine lv_if_ne (tgt := 15) C.1 C.2.1 dX11_agreed_8 (by decide) (fun c26 => ?_) (fun c26 => ?_)
  · rw [if_neg c26] at hh
    refine r_aload_n C.1 C.2.1 dX11_agreed_15 rfl (lv_at hl 0 rfl) ?_
    refine r_getR C hm flX11_81 dX11_agreed_16 hh (fun x23 _ hh => ?_)
    refine r_getI C hm flX11_281 dX11_agreed_19 hh (fun x24 _ hh => ?_)
    refine lv_iconst (v := (-1)) C.1 C.2.1 dX11_agreed_22 (by decide) ?_
    refine lv_icmp_ne (tgt := 30) C.1 C.2.1 dX11_agreed_23 (by decide) (fun c25 => ?_) (fun c25 => ?_)
    · rw [if_neg c25] at hh
      refine lv_iconst (v := 0) C.1 C.2.1 dX11_agreed_30 (by decide) ?_
      exact B31 _ _ _ _ _ _ _ _ _ _ _  hm hs (lv_sub hl [0, 1, 2, 3, 4] rfl) hh
    · rw [if_pos c25] at hh
      refine lv_iconst (v := 5) C.1 C.2.1 dX11_agreed_26 (by decide) ?_
      refine lv_goto (tgt := 31) C.1 C.2.1 dX11_agreed_27 (by decide) ?_
      exact B31 _ _ _ _ _ _ _ _ _ _ _  hm hs (lv_sub hl [0, 1, 2, 3, 4] rfl) hh
  · rw [if_pos c26] at hh
    refine lv_iconst (v := 1) C.1 C.2.1 dX11_agreed_11 (by decide) ?_
    refine lv_goto (tgt := 31) C.1 C.2.1 dX11_agreed_12 (by decide) ?_
    exact B31 _ _ _ _ _ _ _ _ _ _ _  hm hs (lv_sub hl [0, 1, 2, 3, 4] rfl) hh
def mX11_group_b35 (h : MHp) (a0 : Nat) (v1 : Int32) (v2 : Int32) (v3 : Int32) (t0 : Option Nat) (t1 : Int32) : Option (Int32 × MHp) := (pI 12 15 h t0 t1).bind fun h1 => (gI 12 15 h1 (some a0)).bind fun x2 => (if x2 = 0 then (gR 12 9 h1 (some a0)).bind fun x3 => (rcv 7 h1 x3).bind fun b5 => (mX6_join h1 b5 v1 v2 v3).bind fun r4 => some (1, r4) else some (0, h1))
def mX11_group (h : MHp) (a0 : Nat) (a1 : Int32) (a2 : Int32) (a3 : Int32) : Option (Int32 × MHp) := (gR 12 2 h (some a0)).bind fun x7 => (gR 10 5 h x7).bind fun x8 => (rcv 2 h x8).bind fun b10 => (mX1_hasValue h b10 a1 a2).bind fun r9 => (if r9 = 0 then mX11_group_b35 h a0 a1 a2 a3 (some a0) 1 else (mX11_isWithin h a3 0 9).bind fun r11 => (if r11 = 0 then mX11_group_b35 h a0 a1 a2 a3 (some a0) 2 else mX11_group_b35 h a0 a1 a2 a3 (some a0) 0))
set_option maxRecDepth 100000 in
set_option maxHeartbeats 4000000 in
theorem c_X11_group (l : Launch) (G : Env0) (h : MHp) (a0 : Nat) (a1 : Int32) (a2 : Int32) (a3 : Int32) (res : Int32 × MHp) (hh : mX11_group h a0 a1 a2 a3 = some res) : MG l yX11_group cX11_group 4 (some .boolean) 3 64 0 0 G h [.ref a0, .int a1, .int a2, .int a3] (some (.int res.1)) (res.2) := by
  refine MG_of (own := RX11) (plainFor_of_name (by decide)) rfl (Nat.le_of_ble_eq_true rfl) ?_
  intro p e s m args below meth c Q ls hQ C X hin hm hs hl hr
  have hl : lv_has ls 4 [(0, va_rf (some a0)), (1, .int a1), (2, .int a2), (3, .int a3)] := hl
  have B35 : ∀ (h : MHp) (H : Heap) (locs : List Loc) (ls : Array Slot) (a0 : Nat) (v1 : Int32) (v2 : Int32) (v3 : Int32) (t0 : Option Nat) (t1 : Int32) , mHp (gD G) (gC G) (gB G) h H → va_S (fun q => gB G ≤ q) s.heap H locs → lv_has ls 4 [(0, va_rf (some a0)), (1, .int v1), (2, .int v2), (3, .int v3)] → mX11_group_b35 h a0 v1 v2 v3 t0 t1 = some res → W p l e ({ frames := 3, cells := 0, slots := 0, locals := 64 }) s m args below meth c H locs 0 0 Q (F0 m 35 ls [.int t1, va_rf t0]) := by
    intro h H locs ls a0 v1 v2 v3 t0 t1 hm hs hl hh
    unfold mX11_group_b35 at hh
    refine r_putI C hm hs flX11_118 (Or.inl fm_12_15) dX11_group_35 hh (fun h1 H locs _ hh hm hs => ?_)
    refine r_aload_n C.1 C.2.1 dX11_group_38 rfl (lv_at hl 0 rfl) ?_
    refine r_getI C hm flX11_118 dX11_group_39 hh (fun x2 _ hh => ?_)
    refine lv_if_eq (tgt := 47) C.1 C.2.1 dX11_group_42 (by decide) (fun c6 => ?_) (fun c6 => ?_)
    · rw [if_pos c6] at hh
      refine r_aload_n C.1 C.2.1 dX11_group_47 rfl (lv_at hl 0 rfl) ?_
      refine r_getR C hm flX11_88 dX11_group_48 hh (fun x3 _ hh => ?_)
      refine lv_iload_n C.1 C.2.1 dX11_group_51 rfl (lv_at hl 1 rfl) ?_
      refine lv_iload_n C.1 C.2.1 dX11_group_52 rfl (lv_at hl 2 rfl) ?_
      refine lv_iload_n C.1 C.2.1 dX11_group_53 rfl (lv_at hl 3 rfl) ?_
      refine r_cV C X hm hs mlX11_295 mvX11_295 hh (vv := fun r => none) (hp := fun r => r) (fun b r hg => c_X6_join l G h1 b _ _ _ r hg) rfl rfl (Nat.le_of_ble_eq_true rfl) (Nat.le_of_ble_eq_true rfl) (Nat.le_of_ble_eq_true rfl) hl.1 dX11_group_54 (fun b5 r4 H locs hgr4 hh hm hs => ?_)
      refine W.eq (g2 := F0 m 57 ls []) rfl ?_
      refine lv_iconst (v := 1) C.1 C.2.1 dX11_group_57 (by decide) ?_
      exact r_bretW hQ C hr hm hs (by decide) hh dX11_group_58
    · rw [if_neg c6] at hh
      refine lv_iconst (v := 0) C.1 C.2.1 dX11_group_45 (by decide) ?_
      exact r_bretW hQ C hr hm hs (by decide) hh dX11_group_46
  unfold mX11_group at hh
  refine r_aload_n C.1 C.2.1 dX11_group_0 rfl (lv_at hl 0 rfl) ?_
  refine r_aload_n C.1 C.2.1 dX11_group_1 rfl (lv_at hl 0 rfl) ?_
  refine r_getR C hm flX11_34 dX11_group_2 hh (fun x7 _ hh => ?_)
  refine r_getR C hm flX11_125 dX11_group_5 hh (fun x8 _ hh => ?_)
  refine lv_iload_n C.1 C.2.1 dX11_group_8 rfl (lv_at hl 1 rfl) ?_
  refine lv_iload_n C.1 C.2.1 dX11_group_9 rfl (lv_at hl 2 rfl) ?_
  refine r_cV C X hm hs mlX11_270 mvX11_270 hh (vv := fun r => some (.int r)) (hp := fun r => h) (fun b r hg => c_X1_hasValue l G h b _ _ r hg) rfl rfl (by simp [va_cat, vc_i, vc_l, vc_r]) (Nat.le_of_ble_eq_true rfl) (Nat.le_of_ble_eq_true rfl) hl.1 dX11_group_10 (fun b10 r9 H locs hgr9 hh hm hs => ?_)
  refine W.eq (g2 := F0 m 13 ls [.int r9, va_rf (some a0)]) rfl ?_
  refine lv_if_ne (tgt := 20) C.1 C.2.1 dX11_group_13 (by decide) (fun c13 => ?_) (fun c13 => ?_)
  · rw [if_neg c13] at hh
    refine lv_iload_n C.1 C.2.1 dX11_group_20 rfl (lv_at hl 3 rfl) ?_
    refine lv_iconst (v := 0) C.1 C.2.1 dX11_group_21 (by decide) ?_
    refine lv_bipush (v := 9) C.1 C.2.1 dX11_group_22 (by decide) ?_
    refine r_cS C X hm hs mlX11_188 msX11_188 hh (vv := fun r => some (.int r)) (hp := fun r => h) (fun r hg => c_X11_isWithin l G h _ _ _ r hg) rfl rfl (by simp [va_cat, vc_i, vc_l, vc_r]) (Nat.le_of_ble_eq_true rfl) (Nat.le_of_ble_eq_true rfl) hl.1 dX11_group_24 (fun r11 H locs hgr11 hh hm hs => ?_)
    refine W.eq (g2 := F0 m 27 ls [.int r11, va_rf (some a0)]) rfl ?_
    refine lv_if_eq (tgt := 34) C.1 C.2.1 dX11_group_27 (by decide) (fun c12 => ?_) (fun c12 => ?_)
    · rw [if_pos c12] at hh
      refine lv_iconst (v := 2) C.1 C.2.1 dX11_group_34 (by decide) ?_
      exact B35 _ _ _ _ _ _ _ _ _ _  hm hs (lv_sub hl [0, 1, 2, 3] rfl) hh
    · rw [if_neg c12] at hh
      refine lv_iconst (v := 0) C.1 C.2.1 dX11_group_30 (by decide) ?_
      refine lv_goto (tgt := 35) C.1 C.2.1 dX11_group_31 (by decide) ?_
      exact B35 _ _ _ _ _ _ _ _ _ _  hm hs (lv_sub hl [0, 1, 2, 3] rfl) hh
  · rw [if_pos c13] at hh
    refine lv_iconst (v := 1) C.1 C.2.1 dX11_group_16 (by decide) ?_
    refine lv_goto (tgt := 35) C.1 C.2.1 dX11_group_17 (by decide) ?_
    exact B35 _ _ _ _ _ _ _ _ _ _  hm hs (lv_sub hl [0, 1, 2, 3] rfl) hh
def mX11_small_b56 (h : MHp) (a0 : Nat) (v1 : Int32) (v2 : Int32) (v3 : Int32) (v4 : Int32) (t0 : Option Nat) (t1 : Int32) : Option (Int32 × MHp) := (pI 12 15 h t0 t1).bind fun h1 => (gI 12 15 h1 (some a0)).bind fun x2 => (if x2 = 0 then (rcv 12 h1 (some a0)).bind fun b4 => (mX11_hasTable h1 b4 v1).bind fun r3 => (if r3 = 0 then some ((-1), h1) else (gR 12 9 h1 (some a0)).bind fun x5 => (gR 12 3 h1 (some a0)).bind fun x6 => (gAR 24 h1 x6 v1).bind fun x7 => (rcv 7 h1 x5).bind fun b9 => (mX6_survey h1 b9 x7 v2 v3).bind fun r8 => (if v4 = 0 then (gR 12 9 r8 (some a0)).bind fun x11 => (gR 12 5 r8 (some a0)).bind fun x12 => (gAI 20 r8 x12 2).bind fun x13 => (rcv 7 r8 x11).bind fun b15 => (mX6_joined r8 b15 x13).bind fun r14 => some (r14, r8) else (if v4 = 1 then (gR 12 9 r8 (some a0)).bind fun x16 => (rcv 7 r8 x16).bind fun b18 => (mX6_own r8 b18).bind fun r17 => some (r17, r8) else (if v4 = 2 then (gR 12 9 r8 (some a0)).bind fun x19 => (rcv 7 r8 x19).bind fun b21 => (mX6_like r8 b21).bind fun r20 => some (r20, r8) else (gR 12 9 r8 (some a0)).bind fun x22 => (gR 12 5 r8 (some a0)).bind fun x23 => (gAI 20 r8 x23 2).bind fun x24 => (rcv 7 r8 x22).bind fun b26 => (mX6_part r8 b26 x24).bind fun r25 => some (r25, r8))))) else some ((-1), h1))
def mX11_small_b34 (h : MHp) (a0 : Nat) (v1 : Int32) (v2 : Int32) (v3 : Int32) (v4 : Int32) (t0 : Option Nat) : Option (Int32 × MHp) := mX11_small_b56 h a0 v1 v2 v3 v4 t0 1
def mX11_small (h : MHp) (a0 : Nat) (a1 : Int32) (a2 : Int32) (a3 : Int32) (a4 : Int32) : Option (Int32 × MHp) := (rcv 12 h (some a0)).bind fun b30 => (mX11_hasTable h b30 a1).bind fun r29 => (if r29 = 0 then mX11_small_b34 h a0 a1 a2 a3 a4 (some a0) else (gR 12 2 h (some a0)).bind fun x31 => (gR 10 5 h x31).bind fun x32 => (rcv 2 h x32).bind fun b34 => (mX1_hasValue h b34 a2 a3).bind fun r33 => (if r33 = 0 then mX11_small_b34 h a0 a1 a2 a3 a4 (some a0) else (mX11_isWithin h a4 0 3).bind fun r35 => (if r35 = 0 then mX11_small_b34 h a0 a1 a2 a3 a4 (some a0) else (gR 12 3 h (some a0)).bind fun x36 => (gAR 24 h x36 a1).bind fun x37 => (gI 8 4 h x37).bind fun x38 => (if x38 = (-1) then mX11_small_b56 h a0 a1 a2 a3 a4 (some a0) 0 else mX11_small_b56 h a0 a1 a2 a3 a4 (some a0) 5))))
set_option maxRecDepth 100000 in
set_option maxHeartbeats 4000000 in
theorem c_X11_small (l : Launch) (G : Env0) (h : MHp) (a0 : Nat) (a1 : Int32) (a2 : Int32) (a3 : Int32) (a4 : Int32) (res : Int32 × MHp) (hh : mX11_small h a0 a1 a2 a3 a4 = some res) : MG l yX11_small cX11_small 5 (some .int) 5 123 0 0 G h [.ref a0, .int a1, .int a2, .int a3, .int a4] (some (.int res.1)) (res.2) := by
  refine MG_of (own := RX11) (plainFor_of_name (by decide)) rfl (Nat.le_of_ble_eq_true rfl) ?_
  intro p e s m args below meth c Q ls hQ C X hin hm hs hl hr
  have hl : lv_has ls 5 [(0, va_rf (some a0)), (1, .int a1), (2, .int a2), (3, .int a3), (4, .int a4)] := hl
  have B56 : ∀ (h : MHp) (H : Heap) (locs : List Loc) (ls : Array Slot) (a0 : Nat) (v1 : Int32) (v2 : Int32) (v3 : Int32) (v4 : Int32) (t0 : Option Nat) (t1 : Int32) , mHp (gD G) (gC G) (gB G) h H → va_S (fun q => gB G ≤ q) s.heap H locs → lv_has ls 5 [(0, va_rf (some a0)), (1, .int v1), (2, .int v2), (3, .int v3), (4, .int v4)] → mX11_small_b56 h a0 v1 v2 v3 v4 t0 t1 = some res → W p l e ({ frames := 5, cells := 0, slots := 0, locals := 123 }) s m args below meth c H locs 0 0 Q (F0 m 56 ls [.int t1, va_rf t0]) := by
    intro h H locs ls a0 v1 v2 v3 v4 t0 t1 hm hs hl hh
    unfold mX11_small_b56 at hh
    refine r_putI C hm hs flX11_118 (Or.inl fm_12_15) dX11_small_56 hh (fun h1 H locs _ hh hm hs => ?_)
    refine r_aload_n C.1 C.2.1 dX11_small_59 rfl (lv_at hl 0 rfl) ?_
    refine r_getI C hm flX11_118 dX11_small_60 hh (fun x2 _ hh => ?_)
    refine lv_if_ne (tgt := 74) C.1 C.2.1 dX11_small_63 (by decide) (fun c28 => ?_) (fun c28 => ?_)
    · rw [if_neg c28] at hh
      refine lv_iconst (v := (-1)) C.1 C.2.1 dX11_small_74 (by decide) ?_
      exact r_iretW hQ C hr hm hs hh dX11_small_75
    · rw [if_pos c28] at hh
      refine r_aload_n C.1 C.2.1 dX11_small_66 rfl (lv_at hl 0 rfl) ?_
      refine lv_iload_n C.1 C.2.1 dX11_small_67 rfl (lv_at hl 1 rfl) ?_
      refine r_cV C X hm hs mlX11_244 mvX11_244 hh (vv := fun r => some (.int r)) (hp := fun r => h1) (fun b r hg => c_X11_hasTable l G h1 b _ r hg) rfl rfl (Nat.le_of_ble_eq_true rfl) (Nat.le_of_ble_eq_true rfl) (Nat.le_of_ble_eq_true rfl) hl.1 dX11_small_68 (fun b4 r3 H locs hgr3 hh hm hs => ?_)
      refine W.eq (g2 := F0 m 71 ls [.int r3]) rfl ?_
      refine lv_if_ne (tgt := 76) C.1 C.2.1 dX11_small_71 (by decide) (fun c27 => ?_) (fun c27 => ?_)
      · rw [if_neg c27] at hh
        refine r_aload_n C.1 C.2.1 dX11_small_76 rfl (lv_at hl 0 rfl) ?_
        refine r_getR C hm flX11_88 dX11_small_77 hh (fun x5 _ hh => ?_)
        refine r_aload_n C.1 C.2.1 dX11_small_80 rfl (lv_at hl 0 rfl) ?_
        refine r_getR C hm flX11_40 dX11_small_81 hh (fun x6 _ hh => ?_)
        refine lv_iload_n C.1 C.2.1 dX11_small_84 rfl (lv_at hl 1 rfl) ?_
        refine r_ald_q C hm dX11_small_85 (kd := 24) (by decide) (t0 := 4) rfl hh (fun x7 _ hh => ?_)
        refine lv_iload_n C.1 C.2.1 dX11_small_86 rfl (lv_at hl 2 rfl) ?_
        refine lv_iload_n C.1 C.2.1 dX11_small_87 rfl (lv_at hl 3 rfl) ?_
        refine r_cV C X hm hs mlX11_301 mvX11_301 hh (vv := fun r => none) (hp := fun r => r) (fun b r hg => c_X6_survey l G h1 b _ _ _ r hg) rfl rfl (Nat.le_of_ble_eq_true rfl) (Nat.le_of_ble_eq_true rfl) (Nat.le_of_ble_eq_true rfl) hl.1 dX11_small_88 (fun b9 r8 H locs hgr8 hh hm hs => ?_)
        refine W.eq (g2 := F0 m 91 ls []) rfl ?_
        refine lv_iload C.1 C.2.1 dX11_small_91 (lv_at hl 4 rfl) ?_
        by_cases c10_0 : v4 = 0
        · rw [if_pos c10_0] at hh
          refine r_tsw (tgt := 120) C dX11_small_93 c10_0 (by decide) (by decide) rfl (by decide) ?_
          refine r_aload_n C.1 C.2.1 dX11_small_120 rfl (lv_at hl 0 rfl) ?_
          refine r_getR C hm flX11_88 dX11_small_121 hh (fun x11 _ hh => ?_)
          refine r_aload_n C.1 C.2.1 dX11_small_124 rfl (lv_at hl 0 rfl) ?_
          refine r_getR C hm flX11_57 dX11_small_125 hh (fun x12 _ hh => ?_)
          refine lv_iconst (v := 2) C.1 C.2.1 dX11_small_128 (by decide) ?_
          refine r_ald C hm dX11_small_129 hh (fun x13 _ hh => ?_)
          refine r_cV C X hm hs mlX11_305 mvX11_305 hh (vv := fun r => some (.int r)) (hp := fun r => r8) (fun b r hg => c_X6_joined l G r8 b _ r hg) rfl rfl (Nat.le_of_ble_eq_true rfl) (Nat.le_of_ble_eq_true rfl) (Nat.le_of_ble_eq_true rfl) hl.1 dX11_small_130 (fun b15 r14 H locs hgr14 hh hm hs => ?_)
          refine W.eq (g2 := F0 m 133 ls [.int r14]) rfl ?_
          exact r_iretW hQ C hr hm hs hh dX11_small_133
        · rw [if_neg c10_0] at hh
          by_cases c10_1 : v4 = 1
          · rw [if_pos c10_1] at hh
            refine r_tsw (tgt := 134) C dX11_small_93 c10_1 (by decide) (by decide) rfl (by decide) ?_
            refine r_aload_n C.1 C.2.1 dX11_small_134 rfl (lv_at hl 0 rfl) ?_
            refine r_getR C hm flX11_88 dX11_small_135 hh (fun x16 _ hh => ?_)
            refine r_cV C X hm hs mlX11_308 mvX11_308 hh (vv := fun r => some (.int r)) (hp := fun r => r8) (fun b r hg => c_X6_own l G r8 b  r hg) rfl rfl (Nat.le_of_ble_eq_true rfl) (Nat.le_of_ble_eq_true rfl) (Nat.le_of_ble_eq_true rfl) hl.1 dX11_small_138 (fun b18 r17 H locs hgr17 hh hm hs => ?_)
            refine W.eq (g2 := F0 m 141 ls [.int r17]) rfl ?_
            exact r_iretW hQ C hr hm hs hh dX11_small_141
          · rw [if_neg c10_1] at hh
            by_cases c10_2 : v4 = 2
            · rw [if_pos c10_2] at hh
              refine r_tsw (tgt := 142) C dX11_small_93 c10_2 (by decide) (by decide) rfl (by decide) ?_
              refine r_aload_n C.1 C.2.1 dX11_small_142 rfl (lv_at hl 0 rfl) ?_
              refine r_getR C hm flX11_88 dX11_small_143 hh (fun x19 _ hh => ?_)
              refine r_cV C X hm hs mlX11_312 mvX11_312 hh (vv := fun r => some (.int r)) (hp := fun r => r8) (fun b r hg => c_X6_like l G r8 b  r hg) rfl rfl (Nat.le_of_ble_eq_true rfl) (Nat.le_of_ble_eq_true rfl) (Nat.le_of_ble_eq_true rfl) hl.1 dX11_small_146 (fun b21 r20 H locs hgr20 hh hm hs => ?_)
              refine W.eq (g2 := F0 m 149 ls [.int r20]) rfl ?_
              exact r_iretW hQ C hr hm hs hh dX11_small_149
            · rw [if_neg c10_2] at hh
              refine lv_tableOut (tgt := 150) C.1 C.2.1 dX11_small_93 (tsw_out3 c10_0 c10_1 c10_2) (by decide) ?_
              refine r_aload_n C.1 C.2.1 dX11_small_150 rfl (lv_at hl 0 rfl) ?_
              refine r_getR C hm flX11_88 dX11_small_151 hh (fun x22 _ hh => ?_)
              refine r_aload_n C.1 C.2.1 dX11_small_154 rfl (lv_at hl 0 rfl) ?_
              refine r_getR C hm flX11_57 dX11_small_155 hh (fun x23 _ hh => ?_)
              refine lv_iconst (v := 2) C.1 C.2.1 dX11_small_158 (by decide) ?_
              refine r_ald C hm dX11_small_159 hh (fun x24 _ hh => ?_)
              refine r_cV C X hm hs mlX11_315 mvX11_315 hh (vv := fun r => some (.int r)) (hp := fun r => r8) (fun b r hg => c_X6_part l G r8 b _ r hg) rfl rfl (Nat.le_of_ble_eq_true rfl) (Nat.le_of_ble_eq_true rfl) (Nat.le_of_ble_eq_true rfl) hl.1 dX11_small_160 (fun b26 r25 H locs hgr25 hh hm hs => ?_)
              refine W.eq (g2 := F0 m 163 ls [.int r25]) rfl ?_
              exact r_iretW hQ C hr hm hs hh dX11_small_163
      · rw [if_pos c27] at hh
        refine lv_iconst (v := (-1)) C.1 C.2.1 dX11_small_74 (by decide) ?_
        exact r_iretW hQ C hr hm hs hh dX11_small_75
  have B34 : ∀ (h : MHp) (H : Heap) (locs : List Loc) (ls : Array Slot) (a0 : Nat) (v1 : Int32) (v2 : Int32) (v3 : Int32) (v4 : Int32) (t0 : Option Nat) , mHp (gD G) (gC G) (gB G) h H → va_S (fun q => gB G ≤ q) s.heap H locs → lv_has ls 5 [(0, va_rf (some a0)), (1, .int v1), (2, .int v2), (3, .int v3), (4, .int v4)] → mX11_small_b34 h a0 v1 v2 v3 v4 t0 = some res → W p l e ({ frames := 5, cells := 0, slots := 0, locals := 123 }) s m args below meth c H locs 0 0 Q (F0 m 34 ls [va_rf t0]) := by
    intro h H locs ls a0 v1 v2 v3 v4 t0 hm hs hl hh
    unfold mX11_small_b34 at hh
    refine lv_iconst (v := 1) C.1 C.2.1 dX11_small_34 (by decide) ?_
    refine lv_goto (tgt := 56) C.1 C.2.1 dX11_small_35 (by decide) ?_
    exact B56 _ _ _ _ _ _ _ _ _ _ _  hm hs (lv_sub hl [0, 1, 2, 3, 4] rfl) hh
  unfold mX11_small at hh
  refine r_aload_n C.1 C.2.1 dX11_small_0 rfl (lv_at hl 0 rfl) ?_
  refine r_aload_n C.1 C.2.1 dX11_small_1 rfl (lv_at hl 0 rfl) ?_
  refine lv_iload_n C.1 C.2.1 dX11_small_2 rfl (lv_at hl 1 rfl) ?_
  refine r_cV C X hm hs mlX11_244 mvX11_244 hh (vv := fun r => some (.int r)) (hp := fun r => h) (fun b r hg => c_X11_hasTable l G h b _ r hg) rfl rfl (by simp [va_cat, vc_i, vc_l, vc_r]) (Nat.le_of_ble_eq_true rfl) (Nat.le_of_ble_eq_true rfl) hl.1 dX11_small_3 (fun b30 r29 H locs hgr29 hh hm hs => ?_)
  refine W.eq (g2 := F0 m 6 ls [.int r29, va_rf (some a0)]) rfl ?_
  refine lv_if_eq (tgt := 34) C.1 C.2.1 dX11_small_6 (by decide) (fun c42 => ?_) (fun c42 => ?_)
  · rw [if_pos c42] at hh
    exact B34 _ _ _ _ _ _ _ _ _ _  hm hs (lv_sub hl [0, 1, 2, 3, 4] rfl) hh
  · rw [if_neg c42] at hh
    refine r_aload_n C.1 C.2.1 dX11_small_9 rfl (lv_at hl 0 rfl) ?_
    refine r_getR C hm flX11_34 dX11_small_10 hh (fun x31 _ hh => ?_)
    refine r_getR C hm flX11_125 dX11_small_13 hh (fun x32 _ hh => ?_)
    refine lv_iload_n C.1 C.2.1 dX11_small_16 rfl (lv_at hl 2 rfl) ?_
    refine lv_iload_n C.1 C.2.1 dX11_small_17 rfl (lv_at hl 3 rfl) ?_
    refine r_cV C X hm hs mlX11_270 mvX11_270 hh (vv := fun r => some (.int r)) (hp := fun r => h) (fun b r hg => c_X1_hasValue l G h b _ _ r hg) rfl rfl (by simp [va_cat, vc_i, vc_l, vc_r]) (Nat.le_of_ble_eq_true rfl) (Nat.le_of_ble_eq_true rfl) hl.1 dX11_small_18 (fun b34 r33 H locs hgr33 hh hm hs => ?_)
    refine W.eq (g2 := F0 m 21 ls [.int r33, va_rf (some a0)]) rfl ?_
    refine lv_if_eq (tgt := 34) C.1 C.2.1 dX11_small_21 (by decide) (fun c41 => ?_) (fun c41 => ?_)
    · rw [if_pos c41] at hh
      exact B34 _ _ _ _ _ _ _ _ _ _  hm hs (lv_sub hl [0, 1, 2, 3, 4] rfl) hh
    · rw [if_neg c41] at hh
      refine lv_iload C.1 C.2.1 dX11_small_24 (lv_at hl 4 rfl) ?_
      refine lv_iconst (v := 0) C.1 C.2.1 dX11_small_26 (by decide) ?_
      refine lv_iconst (v := 3) C.1 C.2.1 dX11_small_27 (by decide) ?_
      refine r_cS C X hm hs mlX11_188 msX11_188 hh (vv := fun r => some (.int r)) (hp := fun r => h) (fun r hg => c_X11_isWithin l G h _ _ _ r hg) rfl rfl (by simp [va_cat, vc_i, vc_l, vc_r]) (Nat.le_of_ble_eq_true rfl) (Nat.le_of_ble_eq_true rfl) hl.1 dX11_small_28 (fun r35 H locs hgr35 hh hm hs => ?_)
      refine W.eq (g2 := F0 m 31 ls [.int r35, va_rf (some a0)]) rfl ?_
      refine lv_if_ne (tgt := 38) C.1 C.2.1 dX11_small_31 (by decide) (fun c40 => ?_) (fun c40 => ?_)
      · rw [if_neg c40] at hh
        refine r_aload_n C.1 C.2.1 dX11_small_38 rfl (lv_at hl 0 rfl) ?_
        refine r_getR C hm flX11_40 dX11_small_39 hh (fun x36 _ hh => ?_)
        refine lv_iload_n C.1 C.2.1 dX11_small_42 rfl (lv_at hl 1 rfl) ?_
        refine r_ald_q C hm dX11_small_43 (kd := 24) (by decide) (t0 := 4) rfl hh (fun x37 _ hh => ?_)
        refine r_getI C hm flX11_298 dX11_small_44 hh (fun x38 _ hh => ?_)
        refine lv_iconst (v := (-1)) C.1 C.2.1 dX11_small_47 (by decide) ?_
        refine lv_icmp_eq (tgt := 55) C.1 C.2.1 dX11_small_48 (by decide) (fun c39 => ?_) (fun c39 => ?_)
        · rw [if_pos c39] at hh
          refine lv_iconst (v := 0) C.1 C.2.1 dX11_small_55 (by decide) ?_
          exact B56 _ _ _ _ _ _ _ _ _ _ _  hm hs (lv_sub hl [0, 1, 2, 3, 4] rfl) hh
        · rw [if_neg c39] at hh
          refine lv_iconst (v := 5) C.1 C.2.1 dX11_small_51 (by decide) ?_
          refine lv_goto (tgt := 56) C.1 C.2.1 dX11_small_52 (by decide) ?_
          exact B56 _ _ _ _ _ _ _ _ _ _ _  hm hs (lv_sub hl [0, 1, 2, 3, 4] rfl) hh
      · rw [if_pos c40] at hh
        exact B34 _ _ _ _ _ _ _ _ _ _  hm hs (lv_sub hl [0, 1, 2, 3, 4] rfl) hh
def mX11_set_b43 (h : MHp) (a0 : Nat) (v1 : Int32) (v2 : Int32) (t0 : Option Nat) (t1 : Int32) : Option (Int32 × MHp) := (pI 12 15 h t0 t1).bind fun h1 => (gI 12 15 h1 (some a0)).bind fun x2 => (if x2 = 0 then (mX11_isWithin h1 v1 0 3).bind fun r3 => (if r3 = 0 then some (0, h1) else (gR 12 5 h1 (some a0)).bind fun x4 => (pAI 20 h1 x4 v1 v2).bind fun h5 => some (1, h5)) else some (0, h1))
def mX11_set_b17 (h : MHp) (a0 : Nat) (v1 : Int32) (v2 : Int32) (t0 : Option Nat) : Option (Int32 × MHp) := mX11_set_b43 h a0 v1 v2 t0 1
def mX11_set (h : MHp) (a0 : Nat) (a1 : Int32) (a2 : Int32) : Option (Int32 × MHp) := (rcv 12 h (some a0)).bind fun b9 => (mX11_hasBook h b9).bind fun r8 => (if r8 = 0 then mX11_set_b17 h a0 a1 a2 (some a0) else (mX11_isWithin h a1 0 3).bind fun r10 => (if r10 = 0 then mX11_set_b17 h a0 a1 a2 (some a0) else (stL 1 a1).bind fun x11 => (stL 2 a1).bind fun x12 => (mX11_isWithin h a2 x11 x12).bind fun r13 => (if r13 = 0 then mX11_set_b43 h a0 a1 a2 (some a0) 2 else mX11_set_b43 h a0 a1 a2 (some a0) 0)))
set_option maxRecDepth 100000 in
set_option maxHeartbeats 4000000 in
theorem c_X11_set (l : Launch) (G : Env0) (h : MHp) (a0 : Nat) (a1 : Int32) (a2 : Int32) (res : Int32 × MHp) (hh : mX11_set h a0 a1 a2 = some res) : MG l yX11_set cX11_set 3 (some .boolean) 1 22 0 0 G h [.ref a0, .int a1, .int a2] (some (.int res.1)) (res.2) := by
  refine MG_of (own := RX11) (plainFor_of_name (by decide)) rfl (Nat.le_of_ble_eq_true rfl) ?_
  intro p e s m args below meth c Q ls hQ C X hin hm hs hl hr
  have hl : lv_has ls 3 [(0, va_rf (some a0)), (1, .int a1), (2, .int a2)] := hl
  have B43 : ∀ (h : MHp) (H : Heap) (locs : List Loc) (ls : Array Slot) (a0 : Nat) (v1 : Int32) (v2 : Int32) (t0 : Option Nat) (t1 : Int32) , mHp (gD G) (gC G) (gB G) h H → va_S (fun q => gB G ≤ q) s.heap H locs → lv_has ls 3 [(0, va_rf (some a0)), (1, .int v1), (2, .int v2)] → mX11_set_b43 h a0 v1 v2 t0 t1 = some res → W p l e ({ frames := 1, cells := 0, slots := 0, locals := 22 }) s m args below meth c H locs 0 0 Q (F0 m 43 ls [.int t1, va_rf t0]) := by
    intro h H locs ls a0 v1 v2 t0 t1 hm hs hl hh
    unfold mX11_set_b43 at hh
    refine r_putI C hm hs flX11_118 (Or.inl fm_12_15) dX11_set_43 hh (fun h1 H locs _ hh hm hs => ?_)
    refine r_aload_n C.1 C.2.1 dX11_set_46 rfl (lv_at hl 0 rfl) ?_
    refine r_getI C hm flX11_118 dX11_set_47 hh (fun x2 _ hh => ?_)
    refine lv_if_ne (tgt := 62) C.1 C.2.1 dX11_set_50 (by decide) (fun c7 => ?_) (fun c7 => ?_)
    · rw [if_neg c7] at hh
      refine lv_iconst (v := 0) C.1 C.2.1 dX11_set_62 (by decide) ?_
      exact r_bretW hQ C hr hm hs (by decide) hh dX11_set_63
    · rw [if_pos c7] at hh
      refine lv_iload_n C.1 C.2.1 dX11_set_53 rfl (lv_at hl 1 rfl) ?_
      refine lv_iconst (v := 0) C.1 C.2.1 dX11_set_54 (by decide) ?_
      refine lv_iconst (v := 3) C.1 C.2.1 dX11_set_55 (by decide) ?_
      refine r_cS C X hm hs mlX11_188 msX11_188 hh (vv := fun r => some (.int r)) (hp := fun r => h1) (fun r hg => c_X11_isWithin l G h1 _ _ _ r hg) rfl rfl (Nat.le_of_ble_eq_true rfl) (Nat.le_of_ble_eq_true rfl) (Nat.le_of_ble_eq_true rfl) hl.1 dX11_set_56 (fun r3 H locs hgr3 hh hm hs => ?_)
      refine W.eq (g2 := F0 m 59 ls [.int r3]) rfl ?_
      refine lv_if_ne (tgt := 64) C.1 C.2.1 dX11_set_59 (by decide) (fun c6 => ?_) (fun c6 => ?_)
      · rw [if_neg c6] at hh
        refine r_aload_n C.1 C.2.1 dX11_set_64 rfl (lv_at hl 0 rfl) ?_
        refine r_getR C hm flX11_57 dX11_set_65 hh (fun x4 _ hh => ?_)
        refine lv_iload_n C.1 C.2.1 dX11_set_68 rfl (lv_at hl 1 rfl) ?_
        refine lv_iload_n C.1 C.2.1 dX11_set_69 rfl (lv_at hl 2 rfl) ?_
        refine r_ast C hm hs dX11_set_70 hh (fun h5 H locs _ hh hm hs => ?_)
        refine lv_iconst (v := 1) C.1 C.2.1 dX11_set_71 (by decide) ?_
        exact r_bretW hQ C hr hm hs (by decide) hh dX11_set_72
      · rw [if_pos c6] at hh
        refine lv_iconst (v := 0) C.1 C.2.1 dX11_set_62 (by decide) ?_
        exact r_bretW hQ C hr hm hs (by decide) hh dX11_set_63
  have B17 : ∀ (h : MHp) (H : Heap) (locs : List Loc) (ls : Array Slot) (a0 : Nat) (v1 : Int32) (v2 : Int32) (t0 : Option Nat) , mHp (gD G) (gC G) (gB G) h H → va_S (fun q => gB G ≤ q) s.heap H locs → lv_has ls 3 [(0, va_rf (some a0)), (1, .int v1), (2, .int v2)] → mX11_set_b17 h a0 v1 v2 t0 = some res → W p l e ({ frames := 1, cells := 0, slots := 0, locals := 22 }) s m args below meth c H locs 0 0 Q (F0 m 17 ls [va_rf t0]) := by
    intro h H locs ls a0 v1 v2 t0 hm hs hl hh
    unfold mX11_set_b17 at hh
    refine lv_iconst (v := 1) C.1 C.2.1 dX11_set_17 (by decide) ?_
    refine lv_goto (tgt := 43) C.1 C.2.1 dX11_set_18 (by decide) ?_
    exact B43 _ _ _ _ _ _ _ _ _  hm hs (lv_sub hl [0, 1, 2] rfl) hh
  unfold mX11_set at hh
  refine r_aload_n C.1 C.2.1 dX11_set_0 rfl (lv_at hl 0 rfl) ?_
  refine r_aload_n C.1 C.2.1 dX11_set_1 rfl (lv_at hl 0 rfl) ?_
  refine r_cV C X hm hs mlX11_151 mvX11_151 hh (vv := fun r => some (.int r)) (hp := fun r => h) (fun b r hg => c_X11_hasBook l G h b  r hg) rfl rfl (by simp [va_cat, vc_i, vc_l, vc_r]) (Nat.le_of_ble_eq_true rfl) (Nat.le_of_ble_eq_true rfl) hl.1 dX11_set_2 (fun b9 r8 H locs hgr8 hh hm hs => ?_)
  refine W.eq (g2 := F0 m 5 ls [.int r8, va_rf (some a0)]) rfl ?_
  refine lv_if_eq (tgt := 17) C.1 C.2.1 dX11_set_5 (by decide) (fun c16 => ?_) (fun c16 => ?_)
  · rw [if_pos c16] at hh
    exact B17 _ _ _ _ _ _ _ _  hm hs (lv_sub hl [0, 1, 2] rfl) hh
  · rw [if_neg c16] at hh
    refine lv_iload_n C.1 C.2.1 dX11_set_8 rfl (lv_at hl 1 rfl) ?_
    refine lv_iconst (v := 0) C.1 C.2.1 dX11_set_9 (by decide) ?_
    refine lv_iconst (v := 3) C.1 C.2.1 dX11_set_10 (by decide) ?_
    refine r_cS C X hm hs mlX11_188 msX11_188 hh (vv := fun r => some (.int r)) (hp := fun r => h) (fun r hg => c_X11_isWithin l G h _ _ _ r hg) rfl rfl (by simp [va_cat, vc_i, vc_l, vc_r]) (Nat.le_of_ble_eq_true rfl) (Nat.le_of_ble_eq_true rfl) hl.1 dX11_set_11 (fun r10 H locs hgr10 hh hm hs => ?_)
    refine W.eq (g2 := F0 m 14 ls [.int r10, va_rf (some a0)]) rfl ?_
    refine lv_if_ne (tgt := 21) C.1 C.2.1 dX11_set_14 (by decide) (fun c15 => ?_) (fun c15 => ?_)
    · rw [if_neg c15] at hh
      refine lv_iload_n C.1 C.2.1 dX11_set_21 rfl (lv_at hl 2 rfl) ?_
      refine r_gets C X hs (k := 1) (by decide) (in_tbl q_1022 rfl) dX11_set_22 ?_
      refine lv_iload_n C.1 C.2.1 dX11_set_25 rfl (lv_at hl 1 rfl) ?_
      refine r_sald C X hs (k := 1) (by decide) dX11_set_26 hh (fun x11 _ hh => ?_)
      refine r_gets C X hs (k := 2) (by decide) (in_tbl q_1024 rfl) dX11_set_27 ?_
      refine lv_iload_n C.1 C.2.1 dX11_set_30 rfl (lv_at hl 1 rfl) ?_
      refine r_sald C X hs (k := 2) (by decide) dX11_set_31 hh (fun x12 _ hh => ?_)
      refine r_cS C X hm hs mlX11_188 msX11_188 hh (vv := fun r => some (.int r)) (hp := fun r => h) (fun r hg => c_X11_isWithin l G h _ _ _ r hg) rfl rfl (by simp [va_cat, vc_i, vc_l, vc_r]) (Nat.le_of_ble_eq_true rfl) (Nat.le_of_ble_eq_true rfl) hl.1 dX11_set_32 (fun r13 H locs hgr13 hh hm hs => ?_)
      refine W.eq (g2 := F0 m 35 ls [.int r13, va_rf (some a0)]) rfl ?_
      refine lv_if_eq (tgt := 42) C.1 C.2.1 dX11_set_35 (by decide) (fun c14 => ?_) (fun c14 => ?_)
      · rw [if_pos c14] at hh
        refine lv_iconst (v := 2) C.1 C.2.1 dX11_set_42 (by decide) ?_
        exact B43 _ _ _ _ _ _ _ _ _  hm hs (lv_sub hl [0, 1, 2] rfl) hh
      · rw [if_neg c14] at hh
        refine lv_iconst (v := 0) C.1 C.2.1 dX11_set_38 (by decide) ?_
        refine lv_goto (tgt := 43) C.1 C.2.1 dX11_set_39 (by decide) ?_
        exact B43 _ _ _ _ _ _ _ _ _  hm hs (lv_sub hl [0, 1, 2] rfl) hh
    · rw [if_pos c15] at hh
      exact B17 _ _ _ _ _ _ _ _  hm hs (lv_sub hl [0, 1, 2] rfl) hh
def mX11_hasGuarded (h : MHp) (a0 : Nat) (a1 : Int32) : Option (Int32) := (rcv 12 h (some a0)).bind fun b2 => (mX11_hasTable h b2 a1).bind fun r1 => (if r1 = 0 then some 0 else (gR 12 3 h (some a0)).bind fun x3 => (gAR 24 h x3 a1).bind fun x4 => (rcv 8 h x4).bind fun b6 => (mX7_isGuarded h b6).bind fun r5 => (if r5 = 0 then some 0 else some 1))
set_option maxRecDepth 100000 in
set_option maxHeartbeats 4000000 in
theorem c_X11_hasGuarded (l : Launch) (G : Env0) (h : MHp) (a0 : Nat) (a1 : Int32) (res : Int32) (hh : mX11_hasGuarded h a0 a1 = some res) : MG l yX11_hasGuarded cX11_hasGuarded 2 (some .boolean) 2 40 0 0 G h [.ref a0, .int a1] (some (.int res)) (h) := by
  refine MG_of (own := RX11) (plainFor_of_name (by decide)) rfl (Nat.le_of_ble_eq_true rfl) ?_
  intro p e s m args below meth c Q ls hQ C X hin hm hs hl hr
  have hl : lv_has ls 2 [(0, va_rf (some a0)), (1, .int a1)] := hl
  unfold mX11_hasGuarded at hh
  refine r_aload_n C.1 C.2.1 dX11_hasGuarded_0 rfl (lv_at hl 0 rfl) ?_
  refine lv_iload_n C.1 C.2.1 dX11_hasGuarded_1 rfl (lv_at hl 1 rfl) ?_
  refine r_cV C X hm hs mlX11_244 mvX11_244 hh (vv := fun r => some (.int r)) (hp := fun r => h) (fun b r hg => c_X11_hasTable l G h b _ r hg) rfl rfl (Nat.le_of_ble_eq_true rfl) (Nat.le_of_ble_eq_true rfl) (Nat.le_of_ble_eq_true rfl) hl.1 dX11_hasGuarded_2 (fun b2 r1 H locs hgr1 hh hm hs => ?_)
  refine W.eq (g2 := F0 m 5 ls [.int r1]) rfl ?_
  refine lv_if_eq (tgt := 24) C.1 C.2.1 dX11_hasGuarded_5 (by decide) (fun c8 => ?_) (fun c8 => ?_)
  · rw [if_pos c8] at hh
    refine lv_iconst (v := 0) C.1 C.2.1 dX11_hasGuarded_24 (by decide) ?_
    exact r_bretP hQ C hr hm hs (by decide) hh dX11_hasGuarded_25
  · rw [if_neg c8] at hh
    refine r_aload_n C.1 C.2.1 dX11_hasGuarded_8 rfl (lv_at hl 0 rfl) ?_
    refine r_getR C hm flX11_40 dX11_hasGuarded_9 hh (fun x3 _ hh => ?_)
    refine lv_iload_n C.1 C.2.1 dX11_hasGuarded_12 rfl (lv_at hl 1 rfl) ?_
    refine r_ald_q C hm dX11_hasGuarded_13 (kd := 24) (by decide) (t0 := 4) rfl hh (fun x4 _ hh => ?_)
    refine r_cV C X hm hs mlX11_324 mvX11_324 hh (vv := fun r => some (.int r)) (hp := fun r => h) (fun b r hg => c_X7_isGuarded l G h b  r hg) rfl rfl (Nat.le_of_ble_eq_true rfl) (Nat.le_of_ble_eq_true rfl) (Nat.le_of_ble_eq_true rfl) hl.1 dX11_hasGuarded_14 (fun b6 r5 H locs hgr5 hh hm hs => ?_)
    refine W.eq (g2 := F0 m 17 ls [.int r5]) rfl ?_
    refine lv_if_eq (tgt := 24) C.1 C.2.1 dX11_hasGuarded_17 (by decide) (fun c7 => ?_) (fun c7 => ?_)
    · rw [if_pos c7] at hh
      refine lv_iconst (v := 0) C.1 C.2.1 dX11_hasGuarded_24 (by decide) ?_
      exact r_bretP hQ C hr hm hs (by decide) hh dX11_hasGuarded_25
    · rw [if_neg c7] at hh
      refine lv_iconst (v := 1) C.1 C.2.1 dX11_hasGuarded_20 (by decide) ?_
      refine lv_goto (tgt := 25) C.1 C.2.1 dX11_hasGuarded_21 (by decide) ?_
      exact r_bretP hQ C hr hm hs (by decide) hh dX11_hasGuarded_25
def mX11_shy_b26 (h : MHp) (a0 : Nat) (v1 : Int32) (t0 : Option Nat) (t1 : Int32) : Option (Int32 × MHp) := (pI 12 15 h t0 t1).bind fun h1 => (gI 12 15 h1 (some a0)).bind fun x2 => (if x2 = 0 then (rcv 12 h1 (some a0)).bind fun b4 => (mX11_hasTable h1 b4 v1).bind fun r3 => (if r3 = 0 then some ((-1), h1) else (gR 12 10 h1 (some a0)).bind fun x5 => (gR 12 3 h1 (some a0)).bind fun x6 => (gAR 24 h1 x6 v1).bind fun x7 => (rcv 4 h1 x5).bind fun b9 => (mX3_open h1 b9 x7).bind fun r8 => (gR 12 10 r8 (some a0)).bind fun x10 => (gR 12 5 r8 (some a0)).bind fun x11 => (gAI 20 r8 x11 0).bind fun x12 => (rcv 4 r8 x10).bind fun b14 => (mX3_shyCells r8 b14 x12).bind fun r13 => (mJ13_bitCount_95d88 r8 r13).bind fun r15 => some (r15, r8)) else some ((-1), h1))
def mX11_shy (h : MHp) (a0 : Nat) (a1 : Int32) : Option (Int32 × MHp) := (rcv 12 h (some a0)).bind fun b19 => (mX11_hasTable h b19 a1).bind fun r18 => (if r18 = 0 then mX11_shy_b26 h a0 a1 (some a0) 1 else (rcv 12 h (some a0)).bind fun b21 => (mX11_hasGuarded h b21 a1).bind fun r20 => (if r20 = 0 then mX11_shy_b26 h a0 a1 (some a0) 5 else mX11_shy_b26 h a0 a1 (some a0) 0))
set_option maxRecDepth 100000 in
set_option maxHeartbeats 4000000 in
theorem c_X11_shy (l : Launch) (G : Env0) (h : MHp) (a0 : Nat) (a1 : Int32) (res : Int32 × MHp) (hh : mX11_shy h a0 a1 = some res) : MG l yX11_shy cX11_shy 2 (some .int) 6 141 0 0 G h [.ref a0, .int a1] (some (.int res.1)) (res.2) := by
  refine MG_of (own := RX11) (plainFor_of_name (by decide)) rfl (Nat.le_of_ble_eq_true rfl) ?_
  intro p e s m args below meth c Q ls hQ C X hin hm hs hl hr
  have hl : lv_has ls 2 [(0, va_rf (some a0)), (1, .int a1)] := hl
  have B26 : ∀ (h : MHp) (H : Heap) (locs : List Loc) (ls : Array Slot) (a0 : Nat) (v1 : Int32) (t0 : Option Nat) (t1 : Int32) , mHp (gD G) (gC G) (gB G) h H → va_S (fun q => gB G ≤ q) s.heap H locs → lv_has ls 2 [(0, va_rf (some a0)), (1, .int v1)] → mX11_shy_b26 h a0 v1 t0 t1 = some res → W p l e ({ frames := 6, cells := 0, slots := 0, locals := 141 }) s m args below meth c H locs 0 0 Q (F0 m 26 ls [.int t1, va_rf t0]) := by
    intro h H locs ls a0 v1 t0 t1 hm hs hl hh
    unfold mX11_shy_b26 at hh
    refine r_putI C hm hs flX11_118 (Or.inl fm_12_15) dX11_shy_26 hh (fun h1 H locs _ hh hm hs => ?_)
    refine r_aload_n C.1 C.2.1 dX11_shy_29 rfl (lv_at hl 0 rfl) ?_
    refine r_getI C hm flX11_118 dX11_shy_30 hh (fun x2 _ hh => ?_)
    refine lv_if_ne (tgt := 44) C.1 C.2.1 dX11_shy_33 (by decide) (fun c17 => ?_) (fun c17 => ?_)
    · rw [if_neg c17] at hh
      refine lv_iconst (v := (-1)) C.1 C.2.1 dX11_shy_44 (by decide) ?_
      exact r_iretW hQ C hr hm hs hh dX11_shy_45
    · rw [if_pos c17] at hh
      refine r_aload_n C.1 C.2.1 dX11_shy_36 rfl (lv_at hl 0 rfl) ?_
      refine lv_iload_n C.1 C.2.1 dX11_shy_37 rfl (lv_at hl 1 rfl) ?_
      refine r_cV C X hm hs mlX11_244 mvX11_244 hh (vv := fun r => some (.int r)) (hp := fun r => h1) (fun b r hg => c_X11_hasTable l G h1 b _ r hg) rfl rfl (Nat.le_of_ble_eq_true rfl) (Nat.le_of_ble_eq_true rfl) (Nat.le_of_ble_eq_true rfl) hl.1 dX11_shy_38 (fun b4 r3 H locs hgr3 hh hm hs => ?_)
      refine W.eq (g2 := F0 m 41 ls [.int r3]) rfl ?_
      refine lv_if_ne (tgt := 46) C.1 C.2.1 dX11_shy_41 (by decide) (fun c16 => ?_) (fun c16 => ?_)
      · rw [if_neg c16] at hh
        refine r_aload_n C.1 C.2.1 dX11_shy_46 rfl (lv_at hl 0 rfl) ?_
        refine r_getR C hm flX11_95 dX11_shy_47 hh (fun x5 _ hh => ?_)
        refine r_aload_n C.1 C.2.1 dX11_shy_50 rfl (lv_at hl 0 rfl) ?_
        refine r_getR C hm flX11_40 dX11_shy_51 hh (fun x6 _ hh => ?_)
        refine lv_iload_n C.1 C.2.1 dX11_shy_54 rfl (lv_at hl 1 rfl) ?_
        refine r_ald_q C hm dX11_shy_55 (kd := 24) (by decide) (t0 := 4) rfl hh (fun x7 _ hh => ?_)
        refine r_cV C X hm hs mlX11_330 mvX11_330 hh (vv := fun r => none) (hp := fun r => r) (fun b r hg => c_X3_open l G h1 b _ r hg) rfl rfl (Nat.le_of_ble_eq_true rfl) (Nat.le_of_ble_eq_true rfl) (Nat.le_of_ble_eq_true rfl) hl.1 dX11_shy_56 (fun b9 r8 H locs hgr8 hh hm hs => ?_)
        refine W.eq (g2 := F0 m 59 ls []) rfl ?_
        refine r_aload_n C.1 C.2.1 dX11_shy_59 rfl (lv_at hl 0 rfl) ?_
        refine r_getR C hm flX11_95 dX11_shy_60 hh (fun x10 _ hh => ?_)
        refine r_aload_n C.1 C.2.1 dX11_shy_63 rfl (lv_at hl 0 rfl) ?_
        refine r_getR C hm flX11_57 dX11_shy_64 hh (fun x11 _ hh => ?_)
        refine lv_iconst (v := 0) C.1 C.2.1 dX11_shy_67 (by decide) ?_
        refine r_ald C hm dX11_shy_68 hh (fun x12 _ hh => ?_)
        refine r_cV C X hm hs mlX11_334 mvX11_334 hh (vv := fun r => some (.long r)) (hp := fun r => r8) (fun b r hg => c_X3_shyCells l G r8 b _ r hg) rfl rfl (Nat.le_of_ble_eq_true rfl) (Nat.le_of_ble_eq_true rfl) (Nat.le_of_ble_eq_true rfl) hl.1 dX11_shy_69 (fun b14 r13 H locs hgr13 hh hm hs => ?_)
        refine W.eq (g2 := F0 m 72 ls [.long r13]) rfl ?_
        refine r_cS C X hm hs mlX11_338 msX11_338 hh (vv := fun r => some (.int r)) (hp := fun r => r8) (fun r hg => c_J13_bitCount_95d88 l G r8 _ r hg) rfl rfl (Nat.le_of_ble_eq_true rfl) (Nat.le_of_ble_eq_true rfl) (Nat.le_of_ble_eq_true rfl) hl.1 dX11_shy_72 (fun r15 H locs hgr15 hh hm hs => ?_)
        refine W.eq (g2 := F0 m 75 ls [.int r15]) rfl ?_
        exact r_iretW hQ C hr hm hs hh dX11_shy_75
      · rw [if_pos c16] at hh
        refine lv_iconst (v := (-1)) C.1 C.2.1 dX11_shy_44 (by decide) ?_
        exact r_iretW hQ C hr hm hs hh dX11_shy_45
  unfold mX11_shy at hh
  refine r_aload_n C.1 C.2.1 dX11_shy_0 rfl (lv_at hl 0 rfl) ?_
  refine r_aload_n C.1 C.2.1 dX11_shy_1 rfl (lv_at hl 0 rfl) ?_
  refine lv_iload_n C.1 C.2.1 dX11_shy_2 rfl (lv_at hl 1 rfl) ?_
  refine r_cV C X hm hs mlX11_244 mvX11_244 hh (vv := fun r => some (.int r)) (hp := fun r => h) (fun b r hg => c_X11_hasTable l G h b _ r hg) rfl rfl (by simp [va_cat, vc_i, vc_l, vc_r]) (Nat.le_of_ble_eq_true rfl) (Nat.le_of_ble_eq_true rfl) hl.1 dX11_shy_3 (fun b19 r18 H locs hgr18 hh hm hs => ?_)
  refine W.eq (g2 := F0 m 6 ls [.int r18, va_rf (some a0)]) rfl ?_
  refine lv_if_ne (tgt := 13) C.1 C.2.1 dX11_shy_6 (by decide) (fun c23 => ?_) (fun c23 => ?_)
  · rw [if_neg c23] at hh
    refine r_aload_n C.1 C.2.1 dX11_shy_13 rfl (lv_at hl 0 rfl) ?_
    refine lv_iload_n C.1 C.2.1 dX11_shy_14 rfl (lv_at hl 1 rfl) ?_
    refine r_cV C X hm hs mlX11_327 mvX11_327 hh (vv := fun r => some (.int r)) (hp := fun r => h) (fun b r hg => c_X11_hasGuarded l G h b _ r hg) rfl rfl (by simp [va_cat, vc_i, vc_l, vc_r]) (Nat.le_of_ble_eq_true rfl) (Nat.le_of_ble_eq_true rfl) hl.1 dX11_shy_15 (fun b21 r20 H locs hgr20 hh hm hs => ?_)
    refine W.eq (g2 := F0 m 18 ls [.int r20, va_rf (some a0)]) rfl ?_
    refine lv_if_eq (tgt := 25) C.1 C.2.1 dX11_shy_18 (by decide) (fun c22 => ?_) (fun c22 => ?_)
    · rw [if_pos c22] at hh
      refine lv_iconst (v := 5) C.1 C.2.1 dX11_shy_25 (by decide) ?_
      exact B26 _ _ _ _ _ _ _ _  hm hs (lv_sub hl [0, 1] rfl) hh
    · rw [if_neg c22] at hh
      refine lv_iconst (v := 0) C.1 C.2.1 dX11_shy_21 (by decide) ?_
      refine lv_goto (tgt := 26) C.1 C.2.1 dX11_shy_22 (by decide) ?_
      exact B26 _ _ _ _ _ _ _ _  hm hs (lv_sub hl [0, 1] rfl) hh
  · rw [if_pos c23] at hh
    refine lv_iconst (v := 1) C.1 C.2.1 dX11_shy_9 (by decide) ?_
    refine lv_goto (tgt := 26) C.1 C.2.1 dX11_shy_10 (by decide) ?_
    exact B26 _ _ _ _ _ _ _ _  hm hs (lv_sub hl [0, 1] rfl) hh
def mX11_troubleOfEdge (h : MHp) (a0 : Option Nat) (a1 : Int32) (a2 : Int64) : Option (Int32) := (mX11_isLeftOut h a1 a2).bind fun r1 => (if r1 = 0 then some 5 else (rcv 8 h a0).bind fun b3 => (mX7_hasBits h b3 a2).bind fun r2 => (if r2 = 0 then some 2 else some 0))
set_option maxRecDepth 100000 in
set_option maxHeartbeats 4000000 in
theorem c_X11_troubleOfEdge (l : Launch) (G : Env0) (h : MHp) (a0 : Option Nat) (a1 : Int32) (a2 : Int64) (res : Int32) (hh : mX11_troubleOfEdge h a0 a1 a2 = some res) : MG l yX11_troubleOfEdge cX11_troubleOfEdge 4 (some .int) 2 42 0 0 G h [va_rf a0, .int a1, .long a2] (some (.int res)) (h) := by
  refine MG_of (own := RX11) (plainFor_of_name (by decide)) rfl (by simp [lg_sl, va_cat, vc_i, vc_l, vc_r]) ?_
  intro p e s m args below meth c Q ls hQ C X hin hm hs hl hr
  have hl : lv_has ls 4 [(0, va_rf a0), (1, .int a1), (2, .long a2)] := by simpa [lv_args, va_cat, vc_i, vc_l, vc_r] using hl
  have hl : lv_has ls 4 [(0, va_rf a0), (1, .int a1), (2, .long a2)] := hl
  unfold mX11_troubleOfEdge at hh
  refine lv_iload_n C.1 C.2.1 dX11_troubleOfEdge_0 rfl (lv_at hl 1 rfl) ?_
  refine lv_lload_n C.1 C.2.1 dX11_troubleOfEdge_1 rfl (lv_at hl 2 rfl) ?_
  refine r_cS C X hm hs mlX11_352 msX11_352 hh (vv := fun r => some (.int r)) (hp := fun r => h) (fun r hg => c_X11_isLeftOut l G h _ _ r hg) rfl rfl (Nat.le_of_ble_eq_true rfl) (Nat.le_of_ble_eq_true rfl) (Nat.le_of_ble_eq_true rfl) hl.1 dX11_troubleOfEdge_2 (fun r1 H locs hgr1 hh hm hs => ?_)
  refine W.eq (g2 := F0 m 5 ls [.int r1]) rfl ?_
  refine lv_if_ne (tgt := 12) C.1 C.2.1 dX11_troubleOfEdge_5 (by decide) (fun c5 => ?_) (fun c5 => ?_)
  · rw [if_neg c5] at hh
    refine r_aload_n C.1 C.2.1 dX11_troubleOfEdge_12 rfl (lv_at hl 0 rfl) ?_
    refine lv_lload_n C.1 C.2.1 dX11_troubleOfEdge_13 rfl (lv_at hl 2 rfl) ?_
    refine r_cV C X hm hs mlX11_356 mvX11_356 hh (vv := fun r => some (.int r)) (hp := fun r => h) (fun b r hg => c_X7_hasBits l G h b _ r hg) rfl rfl (Nat.le_of_ble_eq_true rfl) (Nat.le_of_ble_eq_true rfl) (Nat.le_of_ble_eq_true rfl) hl.1 dX11_troubleOfEdge_14 (fun b3 r2 H locs hgr2 hh hm hs => ?_)
    refine W.eq (g2 := F0 m 17 ls [.int r2]) rfl ?_
    refine lv_if_eq (tgt := 24) C.1 C.2.1 dX11_troubleOfEdge_17 (by decide) (fun c4 => ?_) (fun c4 => ?_)
    · rw [if_pos c4] at hh
      refine lv_iconst (v := 2) C.1 C.2.1 dX11_troubleOfEdge_24 (by decide) ?_
      exact r_iretP hQ C hr hm hs hh dX11_troubleOfEdge_25
    · rw [if_neg c4] at hh
      refine lv_iconst (v := 0) C.1 C.2.1 dX11_troubleOfEdge_20 (by decide) ?_
      refine lv_goto (tgt := 25) C.1 C.2.1 dX11_troubleOfEdge_21 (by decide) ?_
      exact r_iretP hQ C hr hm hs hh dX11_troubleOfEdge_25
  · rw [if_pos c5] at hh
    refine lv_iconst (v := 5) C.1 C.2.1 dX11_troubleOfEdge_8 (by decide) ?_
    refine lv_goto (tgt := 25) C.1 C.2.1 dX11_troubleOfEdge_9 (by decide) ?_
    exact r_iretP hQ C hr hm hs hh dX11_troubleOfEdge_25
def mX11_edge_b49 (h : MHp) (a0 : Nat) (v1 : Int32) (v2 : Int32) (v3 : Int32) (v4 : Int64) (v6 : Int32) (t0 : Option Nat) (t1 : Int32) : Option (Int32 × MHp) := (pI 12 15 h t0 t1).bind fun h1 => (gI 12 15 h1 (some a0)).bind fun x2 => (if x2 = 0 then (rcv 12 h1 (some a0)).bind fun b4 => (mX11_hasTable h1 b4 v1).bind fun r3 => (if r3 = 0 then some ((-1), h1) else (gR 12 10 h1 (some a0)).bind fun x5 => (gR 12 3 h1 (some a0)).bind fun x6 => (gAR 24 h1 x6 v1).bind fun x7 => (rcv 4 h1 x5).bind fun b9 => (mX3_open h1 b9 x7).bind fun r8 => (gR 12 10 r8 (some a0)).bind fun x10 => (gR 12 3 r8 (some a0)).bind fun x11 => (gAR 24 r8 x11 v1).bind fun x12 => (rcv 8 r8 x12).bind fun b14 => (mX7_cellAt r8 b14 v2 v3).bind fun r13 => (rcv 4 r8 x10).bind fun b16 => (mX3_edgeOf r8 b16 r13 v4 v6).bind fun r15 => some (r15.1, r15.2)) else some ((-1), h1))
def mX11_edge (h : MHp) (a0 : Nat) (a1 : Int32) (a2 : Int32) (a3 : Int32) (a4 : Int64) (a5 : Int32) : Option (Int32 × MHp) := (rcv 12 h (some a0)).bind fun b20 => (mX11_hasCell h b20 a1 a2 a3).bind fun r19 => (if r19 = 0 then mX11_edge_b49 h a0 a1 a2 a3 a4 a5 (some a0) 1 else (rcv 12 h (some a0)).bind fun b22 => (mX11_hasGuarded h b22 a1).bind fun r21 => (if r21 = 0 then mX11_edge_b49 h a0 a1 a2 a3 a4 a5 (some a0) 5 else (gR 12 3 h (some a0)).bind fun x23 => (gAR 24 h x23 a1).bind fun x24 => (gR 12 3 h (some a0)).bind fun x25 => (gAR 24 h x25 a1).bind fun x26 => (rcv 8 h x26).bind fun b28 => (mX7_cellAt h b28 a2 a3).bind fun r27 => (mX11_troubleOfEdge h x24 r27 a4).bind fun r29 => mX11_edge_b49 h a0 a1 a2 a3 a4 a5 (some a0) r29))
set_option maxRecDepth 100000 in
set_option maxHeartbeats 4000000 in
theorem c_X11_edge (l : Launch) (G : Env0) (h : MHp) (a0 : Nat) (a1 : Int32) (a2 : Int32) (a3 : Int32) (a4 : Int64) (a5 : Int32) (res : Int32 × MHp) (hh : mX11_edge h a0 a1 a2 a3 a4 a5 = some res) : MG l yX11_edge cX11_edge 7 (some .int) 6 141 0 0 G h [.ref a0, .int a1, .int a2, .int a3, .long a4, .int a5] (some (.int res.1)) (res.2) := by
  refine MG_of (own := RX11) (plainFor_of_name (by decide)) rfl (Nat.le_of_ble_eq_true rfl) ?_
  intro p e s m args below meth c Q ls hQ C X hin hm hs hl hr
  have hl : lv_has ls 7 [(0, va_rf (some a0)), (1, .int a1), (2, .int a2), (3, .int a3), (4, .long a4), (6, .int a5)] := hl
  have B49 : ∀ (h : MHp) (H : Heap) (locs : List Loc) (ls : Array Slot) (a0 : Nat) (v1 : Int32) (v2 : Int32) (v3 : Int32) (v4 : Int64) (v6 : Int32) (t0 : Option Nat) (t1 : Int32) , mHp (gD G) (gC G) (gB G) h H → va_S (fun q => gB G ≤ q) s.heap H locs → lv_has ls 7 [(0, va_rf (some a0)), (1, .int v1), (2, .int v2), (3, .int v3), (4, .long v4), (6, .int v6)] → mX11_edge_b49 h a0 v1 v2 v3 v4 v6 t0 t1 = some res → W p l e ({ frames := 6, cells := 0, slots := 0, locals := 141 }) s m args below meth c H locs 0 0 Q (F0 m 49 ls [.int t1, va_rf t0]) := by
    intro h H locs ls a0 v1 v2 v3 v4 v6 t0 t1 hm hs hl hh
    unfold mX11_edge_b49 at hh
    refine r_putI C hm hs flX11_118 (Or.inl fm_12_15) dX11_edge_49 hh (fun h1 H locs _ hh hm hs => ?_)
    refine r_aload_n C.1 C.2.1 dX11_edge_52 rfl (lv_at hl 0 rfl) ?_
    refine r_getI C hm flX11_118 dX11_edge_53 hh (fun x2 _ hh => ?_)
    refine lv_if_ne (tgt := 67) C.1 C.2.1 dX11_edge_56 (by decide) (fun c18 => ?_) (fun c18 => ?_)
    · rw [if_neg c18] at hh
      refine lv_iconst (v := (-1)) C.1 C.2.1 dX11_edge_67 (by decide) ?_
      exact r_iretW hQ C hr hm hs hh dX11_edge_68
    · rw [if_pos c18] at hh
      refine r_aload_n C.1 C.2.1 dX11_edge_59 rfl (lv_at hl 0 rfl) ?_
      refine lv_iload_n C.1 C.2.1 dX11_edge_60 rfl (lv_at hl 1 rfl) ?_
      refine r_cV C X hm hs mlX11_244 mvX11_244 hh (vv := fun r => some (.int r)) (hp := fun r => h1) (fun b r hg => c_X11_hasTable l G h1 b _ r hg) rfl rfl (Nat.le_of_ble_eq_true rfl) (Nat.le_of_ble_eq_true rfl) (Nat.le_of_ble_eq_true rfl) hl.1 dX11_edge_61 (fun b4 r3 H locs hgr3 hh hm hs => ?_)
      refine W.eq (g2 := F0 m 64 ls [.int r3]) rfl ?_
      refine lv_if_ne (tgt := 69) C.1 C.2.1 dX11_edge_64 (by decide) (fun c17 => ?_) (fun c17 => ?_)
      · rw [if_neg c17] at hh
        refine r_aload_n C.1 C.2.1 dX11_edge_69 rfl (lv_at hl 0 rfl) ?_
        refine r_getR C hm flX11_95 dX11_edge_70 hh (fun x5 _ hh => ?_)
        refine r_aload_n C.1 C.2.1 dX11_edge_73 rfl (lv_at hl 0 rfl) ?_
        refine r_getR C hm flX11_40 dX11_edge_74 hh (fun x6 _ hh => ?_)
        refine lv_iload_n C.1 C.2.1 dX11_edge_77 rfl (lv_at hl 1 rfl) ?_
        refine r_ald_q C hm dX11_edge_78 (kd := 24) (by decide) (t0 := 4) rfl hh (fun x7 _ hh => ?_)
        refine r_cV C X hm hs mlX11_330 mvX11_330 hh (vv := fun r => none) (hp := fun r => r) (fun b r hg => c_X3_open l G h1 b _ r hg) rfl rfl (Nat.le_of_ble_eq_true rfl) (Nat.le_of_ble_eq_true rfl) (Nat.le_of_ble_eq_true rfl) hl.1 dX11_edge_79 (fun b9 r8 H locs hgr8 hh hm hs => ?_)
        refine W.eq (g2 := F0 m 82 ls []) rfl ?_
        refine r_aload_n C.1 C.2.1 dX11_edge_82 rfl (lv_at hl 0 rfl) ?_
        refine r_getR C hm flX11_95 dX11_edge_83 hh (fun x10 _ hh => ?_)
        refine r_aload_n C.1 C.2.1 dX11_edge_86 rfl (lv_at hl 0 rfl) ?_
        refine r_getR C hm flX11_40 dX11_edge_87 hh (fun x11 _ hh => ?_)
        refine lv_iload_n C.1 C.2.1 dX11_edge_90 rfl (lv_at hl 1 rfl) ?_
        refine r_ald_q C hm dX11_edge_91 (kd := 24) (by decide) (t0 := 4) rfl hh (fun x12 _ hh => ?_)
        refine lv_iload_n C.1 C.2.1 dX11_edge_92 rfl (lv_at hl 2 rfl) ?_
        refine lv_iload_n C.1 C.2.1 dX11_edge_93 rfl (lv_at hl 3 rfl) ?_
        refine r_cV C X hm hs mlX11_254 mvX11_254 hh (vv := fun r => some (.int r)) (hp := fun r => r8) (fun b r hg => c_X7_cellAt l G r8 b _ _ r hg) rfl rfl (by simp [va_cat, vc_i, vc_l, vc_r]) (Nat.le_of_ble_eq_true rfl) (Nat.le_of_ble_eq_true rfl) hl.1 dX11_edge_94 (fun b14 r13 H locs hgr13 hh hm hs => ?_)
        refine W.eq (g2 := F0 m 97 ls [.int r13, va_rf x10]) rfl ?_
        refine lv_lload C.1 C.2.1 dX11_edge_97 (lv_at hl 4 rfl) ?_
        refine lv_iload C.1 C.2.1 dX11_edge_99 (lv_at hl 5 rfl) ?_
        refine r_cV C X hm hs mlX11_348 mvX11_348 hh (vv := fun r => some (.int r.1)) (hp := fun r => r.2) (fun b r hg => c_X3_edgeOf l G r8 b _ _ _ r hg) rfl rfl (Nat.le_of_ble_eq_true rfl) (Nat.le_of_ble_eq_true rfl) (Nat.le_of_ble_eq_true rfl) hl.1 dX11_edge_101 (fun b16 r15 H locs hgr15 hh hm hs => ?_)
        refine W.eq (g2 := F0 m 104 ls [.int r15.1]) rfl ?_
        exact r_iretW hQ C hr hm hs hh dX11_edge_104
      · rw [if_pos c17] at hh
        refine lv_iconst (v := (-1)) C.1 C.2.1 dX11_edge_67 (by decide) ?_
        exact r_iretW hQ C hr hm hs hh dX11_edge_68
  unfold mX11_edge at hh
  refine r_aload_n C.1 C.2.1 dX11_edge_0 rfl (lv_at hl 0 rfl) ?_
  refine r_aload_n C.1 C.2.1 dX11_edge_1 rfl (lv_at hl 0 rfl) ?_
  refine lv_iload_n C.1 C.2.1 dX11_edge_2 rfl (lv_at hl 1 rfl) ?_
  refine lv_iload_n C.1 C.2.1 dX11_edge_3 rfl (lv_at hl 2 rfl) ?_
  refine lv_iload_n C.1 C.2.1 dX11_edge_4 rfl (lv_at hl 3 rfl) ?_
  refine r_cV C X hm hs mlX11_250 mvX11_250 hh (vv := fun r => some (.int r)) (hp := fun r => h) (fun b r hg => c_X11_hasCell l G h b _ _ _ r hg) rfl rfl (by simp [va_cat, vc_i, vc_l, vc_r]) (Nat.le_of_ble_eq_true rfl) (Nat.le_of_ble_eq_true rfl) hl.1 dX11_edge_5 (fun b20 r19 H locs hgr19 hh hm hs => ?_)
  refine W.eq (g2 := F0 m 8 ls [.int r19, va_rf (some a0)]) rfl ?_
  refine lv_if_ne (tgt := 15) C.1 C.2.1 dX11_edge_8 (by decide) (fun c31 => ?_) (fun c31 => ?_)
  · rw [if_neg c31] at hh
    refine r_aload_n C.1 C.2.1 dX11_edge_15 rfl (lv_at hl 0 rfl) ?_
    refine lv_iload_n C.1 C.2.1 dX11_edge_16 rfl (lv_at hl 1 rfl) ?_
    refine r_cV C X hm hs mlX11_327 mvX11_327 hh (vv := fun r => some (.int r)) (hp := fun r => h) (fun b r hg => c_X11_hasGuarded l G h b _ r hg) rfl rfl (by simp [va_cat, vc_i, vc_l, vc_r]) (Nat.le_of_ble_eq_true rfl) (Nat.le_of_ble_eq_true rfl) hl.1 dX11_edge_17 (fun b22 r21 H locs hgr21 hh hm hs => ?_)
    refine W.eq (g2 := F0 m 20 ls [.int r21, va_rf (some a0)]) rfl ?_
    refine lv_if_ne (tgt := 27) C.1 C.2.1 dX11_edge_20 (by decide) (fun c30 => ?_) (fun c30 => ?_)
    · rw [if_neg c30] at hh
      refine r_aload_n C.1 C.2.1 dX11_edge_27 rfl (lv_at hl 0 rfl) ?_
      refine r_getR C hm flX11_40 dX11_edge_28 hh (fun x23 _ hh => ?_)
      refine lv_iload_n C.1 C.2.1 dX11_edge_31 rfl (lv_at hl 1 rfl) ?_
      refine r_ald_q C hm dX11_edge_32 (kd := 24) (by decide) (t0 := 4) rfl hh (fun x24 _ hh => ?_)
      refine r_aload_n C.1 C.2.1 dX11_edge_33 rfl (lv_at hl 0 rfl) ?_
      refine r_getR C hm flX11_40 dX11_edge_34 hh (fun x25 _ hh => ?_)
      refine lv_iload_n C.1 C.2.1 dX11_edge_37 rfl (lv_at hl 1 rfl) ?_
      refine r_ald_q C hm dX11_edge_38 (kd := 24) (by decide) (t0 := 4) rfl hh (fun x26 _ hh => ?_)
      refine lv_iload_n C.1 C.2.1 dX11_edge_39 rfl (lv_at hl 2 rfl) ?_
      refine lv_iload_n C.1 C.2.1 dX11_edge_40 rfl (lv_at hl 3 rfl) ?_
      refine r_cV C X hm hs mlX11_254 mvX11_254 hh (vv := fun r => some (.int r)) (hp := fun r => h) (fun b r hg => c_X7_cellAt l G h b _ _ r hg) rfl rfl (by simp [va_cat, vc_i, vc_l, vc_r]) (Nat.le_of_ble_eq_true rfl) (Nat.le_of_ble_eq_true rfl) hl.1 dX11_edge_41 (fun b28 r27 H locs hgr27 hh hm hs => ?_)
      refine W.eq (g2 := F0 m 44 ls [.int r27, va_rf x24, va_rf (some a0)]) rfl ?_
      refine lv_lload C.1 C.2.1 dX11_edge_44 (lv_at hl 4 rfl) ?_
      refine r_cS C X hm hs mlX11_344 msX11_344 hh (vv := fun r => some (.int r)) (hp := fun r => h) (fun r hg => c_X11_troubleOfEdge l G h _ _ _ r hg) rfl rfl (by simp [va_cat, vc_i, vc_l, vc_r]) (Nat.le_of_ble_eq_true rfl) (Nat.le_of_ble_eq_true rfl) hl.1 dX11_edge_46 (fun r29 H locs hgr29 hh hm hs => ?_)
      refine W.eq (g2 := F0 m 49 ls [.int r29, va_rf (some a0)]) rfl ?_
      exact B49 _ _ _ _ _ _ _ _ _ _ _ _  hm hs (lv_sub hl [0, 1, 2, 3, 4, 5] rfl) hh
    · rw [if_pos c30] at hh
      refine lv_iconst (v := 5) C.1 C.2.1 dX11_edge_23 (by decide) ?_
      refine lv_goto (tgt := 49) C.1 C.2.1 dX11_edge_24 (by decide) ?_
      exact B49 _ _ _ _ _ _ _ _ _ _ _ _  hm hs (lv_sub hl [0, 1, 2, 3, 4, 5] rfl) hh
  · rw [if_pos c31] at hh
    refine lv_iconst (v := 1) C.1 C.2.1 dX11_edge_11 (by decide) ?_
    refine lv_goto (tgt := 49) C.1 C.2.1 dX11_edge_12 (by decide) ?_
    exact B49 _ _ _ _ _ _ _ _ _ _ _ _  hm hs (lv_sub hl [0, 1, 2, 3, 4, 5] rfl) hh
def mX11_wide_b43 (h : MHp) (a0 : Nat) (v1 : Int32) (v2 : Int64) (t0 : Option Nat) (t1 : Int32) : Option (Int32 × MHp) := (pI 12 15 h t0 t1).bind fun h1 => (gI 12 15 h1 (some a0)).bind fun x2 => (if x2 = 0 then (rcv 12 h1 (some a0)).bind fun b4 => (mX11_hasTable h1 b4 v1).bind fun r3 => (if r3 = 0 then some ((-1), h1) else (gR 12 10 h1 (some a0)).bind fun x5 => (gR 12 3 h1 (some a0)).bind fun x6 => (gAR 24 h1 x6 v1).bind fun x7 => (rcv 4 h1 x5).bind fun b9 => (mX3_open h1 b9 x7).bind fun r8 => (gR 12 10 r8 (some a0)).bind fun x10 => (gR 12 10 r8 (some a0)).bind fun x11 => (gR 12 5 r8 (some a0)).bind fun x12 => (gAI 20 r8 x12 0).bind fun x13 => (rcv 4 r8 x11).bind fun b15 => (mX3_shyCells r8 b15 x13).bind fun r14 => (gR 12 5 r8 (some a0)).bind fun x16 => (gAI 20 r8 x16 1).bind fun x17 => (rcv 4 r8 x10).bind fun b19 => (mX3_isWide r8 b19 v2 r14 x17).bind fun r18 => (if r18.1 = 0 then some (0, r18.2) else some (1, r18.2))) else some ((-1), h1))
def mX11_wide (h : MHp) (a0 : Nat) (a1 : Int32) (a2 : Int64) : Option (Int32 × MHp) := (rcv 12 h (some a0)).bind fun b24 => (mX11_hasTable h b24 a1).bind fun r23 => (if r23 = 0 then mX11_wide_b43 h a0 a1 a2 (some a0) 1 else (rcv 12 h (some a0)).bind fun b26 => (mX11_hasGuarded h b26 a1).bind fun r25 => (if r25 = 0 then mX11_wide_b43 h a0 a1 a2 (some a0) 5 else (gR 12 3 h (some a0)).bind fun x27 => (gAR 24 h x27 a1).bind fun x28 => (rcv 8 h x28).bind fun b30 => (mX7_hasBits h b30 a2).bind fun r29 => (if r29 = 0 then mX11_wide_b43 h a0 a1 a2 (some a0) 2 else mX11_wide_b43 h a0 a1 a2 (some a0) 0)))
set_option maxRecDepth 100000 in
set_option maxHeartbeats 4000000 in
theorem c_X11_wide (l : Launch) (G : Env0) (h : MHp) (a0 : Nat) (a1 : Int32) (a2 : Int64) (res : Int32 × MHp) (hh : mX11_wide h a0 a1 a2 = some res) : MG l yX11_wide cX11_wide 4 (some .int) 6 141 0 0 G h [.ref a0, .int a1, .long a2] (some (.int res.1)) (res.2) := by
  refine MG_of (own := RX11) (plainFor_of_name (by decide)) rfl (Nat.le_of_ble_eq_true rfl) ?_
  intro p e s m args below meth c Q ls hQ C X hin hm hs hl hr
  have hl : lv_has ls 4 [(0, va_rf (some a0)), (1, .int a1), (2, .long a2)] := hl
  have B43 : ∀ (h : MHp) (H : Heap) (locs : List Loc) (ls : Array Slot) (a0 : Nat) (v1 : Int32) (v2 : Int64) (t0 : Option Nat) (t1 : Int32) , mHp (gD G) (gC G) (gB G) h H → va_S (fun q => gB G ≤ q) s.heap H locs → lv_has ls 4 [(0, va_rf (some a0)), (1, .int v1), (2, .long v2)] → mX11_wide_b43 h a0 v1 v2 t0 t1 = some res → W p l e ({ frames := 6, cells := 0, slots := 0, locals := 141 }) s m args below meth c H locs 0 0 Q (F0 m 43 ls [.int t1, va_rf t0]) := by
    intro h H locs ls a0 v1 v2 t0 t1 hm hs hl hh
    unfold mX11_wide_b43 at hh
    refine r_putI C hm hs flX11_118 (Or.inl fm_12_15) dX11_wide_43 hh (fun h1 H locs _ hh hm hs => ?_)
    refine r_aload_n C.1 C.2.1 dX11_wide_46 rfl (lv_at hl 0 rfl) ?_
    refine r_getI C hm flX11_118 dX11_wide_47 hh (fun x2 _ hh => ?_)
    refine lv_if_ne (tgt := 61) C.1 C.2.1 dX11_wide_50 (by decide) (fun c22 => ?_) (fun c22 => ?_)
    · rw [if_neg c22] at hh
      refine lv_iconst (v := (-1)) C.1 C.2.1 dX11_wide_61 (by decide) ?_
      exact r_iretW hQ C hr hm hs hh dX11_wide_62
    · rw [if_pos c22] at hh
      refine r_aload_n C.1 C.2.1 dX11_wide_53 rfl (lv_at hl 0 rfl) ?_
      refine lv_iload_n C.1 C.2.1 dX11_wide_54 rfl (lv_at hl 1 rfl) ?_
      refine r_cV C X hm hs mlX11_244 mvX11_244 hh (vv := fun r => some (.int r)) (hp := fun r => h1) (fun b r hg => c_X11_hasTable l G h1 b _ r hg) rfl rfl (Nat.le_of_ble_eq_true rfl) (Nat.le_of_ble_eq_true rfl) (Nat.le_of_ble_eq_true rfl) hl.1 dX11_wide_55 (fun b4 r3 H locs hgr3 hh hm hs => ?_)
      refine W.eq (g2 := F0 m 58 ls [.int r3]) rfl ?_
      refine lv_if_ne (tgt := 63) C.1 C.2.1 dX11_wide_58 (by decide) (fun c21 => ?_) (fun c21 => ?_)
      · rw [if_neg c21] at hh
        refine r_aload_n C.1 C.2.1 dX11_wide_63 rfl (lv_at hl 0 rfl) ?_
        refine r_getR C hm flX11_95 dX11_wide_64 hh (fun x5 _ hh => ?_)
        refine r_aload_n C.1 C.2.1 dX11_wide_67 rfl (lv_at hl 0 rfl) ?_
        refine r_getR C hm flX11_40 dX11_wide_68 hh (fun x6 _ hh => ?_)
        refine lv_iload_n C.1 C.2.1 dX11_wide_71 rfl (lv_at hl 1 rfl) ?_
        refine r_ald_q C hm dX11_wide_72 (kd := 24) (by decide) (t0 := 4) rfl hh (fun x7 _ hh => ?_)
        refine r_cV C X hm hs mlX11_330 mvX11_330 hh (vv := fun r => none) (hp := fun r => r) (fun b r hg => c_X3_open l G h1 b _ r hg) rfl rfl (Nat.le_of_ble_eq_true rfl) (Nat.le_of_ble_eq_true rfl) (Nat.le_of_ble_eq_true rfl) hl.1 dX11_wide_73 (fun b9 r8 H locs hgr8 hh hm hs => ?_)
        refine W.eq (g2 := F0 m 76 ls []) rfl ?_
        refine r_aload_n C.1 C.2.1 dX11_wide_76 rfl (lv_at hl 0 rfl) ?_
        refine r_getR C hm flX11_95 dX11_wide_77 hh (fun x10 _ hh => ?_)
        refine lv_lload_n C.1 C.2.1 dX11_wide_80 rfl (lv_at hl 2 rfl) ?_
        refine r_aload_n C.1 C.2.1 dX11_wide_81 rfl (lv_at hl 0 rfl) ?_
        refine r_getR C hm flX11_95 dX11_wide_82 hh (fun x11 _ hh => ?_)
        refine r_aload_n C.1 C.2.1 dX11_wide_85 rfl (lv_at hl 0 rfl) ?_
        refine r_getR C hm flX11_57 dX11_wide_86 hh (fun x12 _ hh => ?_)
        refine lv_iconst (v := 0) C.1 C.2.1 dX11_wide_89 (by decide) ?_
        refine r_ald C hm dX11_wide_90 hh (fun x13 _ hh => ?_)
        refine r_cV C X hm hs mlX11_334 mvX11_334 hh (vv := fun r => some (.long r)) (hp := fun r => r8) (fun b r hg => c_X3_shyCells l G r8 b _ r hg) rfl rfl (by simp [va_cat, vc_i, vc_l, vc_r]) (Nat.le_of_ble_eq_true rfl) (Nat.le_of_ble_eq_true rfl) hl.1 dX11_wide_91 (fun b15 r14 H locs hgr14 hh hm hs => ?_)
        refine W.eq (g2 := F0 m 94 ls [.long r14, .long v2, va_rf x10]) rfl ?_
        refine r_aload_n C.1 C.2.1 dX11_wide_94 rfl (lv_at hl 0 rfl) ?_
        refine r_getR C hm flX11_57 dX11_wide_95 hh (fun x16 _ hh => ?_)
        refine lv_iconst (v := 1) C.1 C.2.1 dX11_wide_98 (by decide) ?_
        refine r_ald C hm dX11_wide_99 hh (fun x17 _ hh => ?_)
        refine r_cV C X hm hs mlX11_360 mvX11_360 hh (vv := fun r => some (.int r.1)) (hp := fun r => r.2) (fun b r hg => c_X3_isWide l G r8 b _ _ _ r hg) rfl rfl (Nat.le_of_ble_eq_true rfl) (Nat.le_of_ble_eq_true rfl) (Nat.le_of_ble_eq_true rfl) hl.1 dX11_wide_100 (fun b19 r18 H locs hgr18 hh hm hs => ?_)
        refine W.eq (g2 := F0 m 103 ls [.int r18.1]) rfl ?_
        refine lv_if_eq (tgt := 110) C.1 C.2.1 dX11_wide_103 (by decide) (fun c20 => ?_) (fun c20 => ?_)
        · rw [if_pos c20] at hh
          refine lv_iconst (v := 0) C.1 C.2.1 dX11_wide_110 (by decide) ?_
          exact r_iretW hQ C hr hm hs hh dX11_wide_111
        · rw [if_neg c20] at hh
          refine lv_iconst (v := 1) C.1 C.2.1 dX11_wide_106 (by decide) ?_
          refine lv_goto (tgt := 111) C.1 C.2.1 dX11_wide_107 (by decide) ?_
          exact r_iretW hQ C hr hm hs hh dX11_wide_111
      · rw [if_pos c21] at hh
        refine lv_iconst (v := (-1)) C.1 C.2.1 dX11_wide_61 (by decide) ?_
        exact r_iretW hQ C hr hm hs hh dX11_wide_62
  unfold mX11_wide at hh
  refine r_aload_n C.1 C.2.1 dX11_wide_0 rfl (lv_at hl 0 rfl) ?_
  refine r_aload_n C.1 C.2.1 dX11_wide_1 rfl (lv_at hl 0 rfl) ?_
  refine lv_iload_n C.1 C.2.1 dX11_wide_2 rfl (lv_at hl 1 rfl) ?_
  refine r_cV C X hm hs mlX11_244 mvX11_244 hh (vv := fun r => some (.int r)) (hp := fun r => h) (fun b r hg => c_X11_hasTable l G h b _ r hg) rfl rfl (by simp [va_cat, vc_i, vc_l, vc_r]) (Nat.le_of_ble_eq_true rfl) (Nat.le_of_ble_eq_true rfl) hl.1 dX11_wide_3 (fun b24 r23 H locs hgr23 hh hm hs => ?_)
  refine W.eq (g2 := F0 m 6 ls [.int r23, va_rf (some a0)]) rfl ?_
  refine lv_if_ne (tgt := 13) C.1 C.2.1 dX11_wide_6 (by decide) (fun c33 => ?_) (fun c33 => ?_)
  · rw [if_neg c33] at hh
    refine r_aload_n C.1 C.2.1 dX11_wide_13 rfl (lv_at hl 0 rfl) ?_
    refine lv_iload_n C.1 C.2.1 dX11_wide_14 rfl (lv_at hl 1 rfl) ?_
    refine r_cV C X hm hs mlX11_327 mvX11_327 hh (vv := fun r => some (.int r)) (hp := fun r => h) (fun b r hg => c_X11_hasGuarded l G h b _ r hg) rfl rfl (by simp [va_cat, vc_i, vc_l, vc_r]) (Nat.le_of_ble_eq_true rfl) (Nat.le_of_ble_eq_true rfl) hl.1 dX11_wide_15 (fun b26 r25 H locs hgr25 hh hm hs => ?_)
    refine W.eq (g2 := F0 m 18 ls [.int r25, va_rf (some a0)]) rfl ?_
    refine lv_if_ne (tgt := 25) C.1 C.2.1 dX11_wide_18 (by decide) (fun c32 => ?_) (fun c32 => ?_)
    · rw [if_neg c32] at hh
      refine r_aload_n C.1 C.2.1 dX11_wide_25 rfl (lv_at hl 0 rfl) ?_
      refine r_getR C hm flX11_40 dX11_wide_26 hh (fun x27 _ hh => ?_)
      refine lv_iload_n C.1 C.2.1 dX11_wide_29 rfl (lv_at hl 1 rfl) ?_
      refine r_ald_q C hm dX11_wide_30 (kd := 24) (by decide) (t0 := 4) rfl hh (fun x28 _ hh => ?_)
      refine lv_lload_n C.1 C.2.1 dX11_wide_31 rfl (lv_at hl 2 rfl) ?_
      refine r_cV C X hm hs mlX11_356 mvX11_356 hh (vv := fun r => some (.int r)) (hp := fun r => h) (fun b r hg => c_X7_hasBits l G h b _ r hg) rfl rfl (by simp [va_cat, vc_i, vc_l, vc_r]) (Nat.le_of_ble_eq_true rfl) (Nat.le_of_ble_eq_true rfl) hl.1 dX11_wide_32 (fun b30 r29 H locs hgr29 hh hm hs => ?_)
      refine W.eq (g2 := F0 m 35 ls [.int r29, va_rf (some a0)]) rfl ?_
      refine lv_if_eq (tgt := 42) C.1 C.2.1 dX11_wide_35 (by decide) (fun c31 => ?_) (fun c31 => ?_)
      · rw [if_pos c31] at hh
        refine lv_iconst (v := 2) C.1 C.2.1 dX11_wide_42 (by decide) ?_
        exact B43 _ _ _ _ _ _ _ _ _  hm hs (lv_sub hl [0, 1, 2] rfl) hh
      · rw [if_neg c31] at hh
        refine lv_iconst (v := 0) C.1 C.2.1 dX11_wide_38 (by decide) ?_
        refine lv_goto (tgt := 43) C.1 C.2.1 dX11_wide_39 (by decide) ?_
        exact B43 _ _ _ _ _ _ _ _ _  hm hs (lv_sub hl [0, 1, 2] rfl) hh
    · rw [if_pos c32] at hh
      refine lv_iconst (v := 5) C.1 C.2.1 dX11_wide_21 (by decide) ?_
      refine lv_goto (tgt := 43) C.1 C.2.1 dX11_wide_22 (by decide) ?_
      exact B43 _ _ _ _ _ _ _ _ _  hm hs (lv_sub hl [0, 1, 2] rfl) hh
  · rw [if_pos c33] at hh
    refine lv_iconst (v := 1) C.1 C.2.1 dX11_wide_9 (by decide) ?_
    refine lv_goto (tgt := 43) C.1 C.2.1 dX11_wide_10 (by decide) ?_
    exact B43 _ _ _ _ _ _ _ _ _  hm hs (lv_sub hl [0, 1, 2] rfl) hh
def mX11_least_b40 (h : MHp) (a0 : Nat) (v1 : Int32) (t0 : Option Nat) (t1 : Int32) : Option (Int32 × MHp) := (pI 12 15 h t0 t1).bind fun h1 => (gI 12 15 h1 (some a0)).bind fun x2 => (if x2 = 0 then (rcv 12 h1 (some a0)).bind fun b4 => (mX11_hasTable h1 b4 v1).bind fun r3 => (if r3 = 0 then some ((-3), h1) else (gR 12 10 h1 (some a0)).bind fun x5 => (gR 12 3 h1 (some a0)).bind fun x6 => (gAR 24 h1 x6 v1).bind fun x7 => (rcv 4 h1 x5).bind fun b9 => (mX3_open h1 b9 x7).bind fun r8 => (gR 12 10 r8 (some a0)).bind fun x10 => (gR 12 10 r8 (some a0)).bind fun x11 => (gR 12 5 r8 (some a0)).bind fun x12 => (gAI 20 r8 x12 0).bind fun x13 => (rcv 4 r8 x11).bind fun b15 => (mX3_shyCells r8 b15 x13).bind fun r14 => (gR 12 5 r8 (some a0)).bind fun x16 => (gAI 20 r8 x16 1).bind fun x17 => (rcv 4 r8 x10).bind fun b19 => (mX3_leastSet r8 b19 r14 x17).bind fun r18 => some (r18.1, r18.2)) else some ((-3), h1))
def mX11_least_b39 (h : MHp) (a0 : Nat) (v1 : Int32) (t0 : Option Nat) : Option (Int32 × MHp) := mX11_least_b40 h a0 v1 t0 5
def mX11_least (h : MHp) (a0 : Nat) (a1 : Int32) : Option (Int32 × MHp) := (rcv 12 h (some a0)).bind fun b23 => (mX11_hasTable h b23 a1).bind fun r22 => (if r22 = 0 then mX11_least_b40 h a0 a1 (some a0) 1 else (rcv 12 h (some a0)).bind fun b25 => (mX11_hasGuarded h b25 a1).bind fun r24 => (if r24 = 0 then mX11_least_b39 h a0 a1 (some a0) else (gR 12 3 h (some a0)).bind fun x26 => (gAR 24 h x26 a1).bind fun x27 => (rcv 8 h x27).bind fun b29 => (mX7_cells h b29).bind fun r28 => (if 12 < r28 then mX11_least_b39 h a0 a1 (some a0) else mX11_least_b40 h a0 a1 (some a0) 0)))
set_option maxRecDepth 100000 in
set_option maxHeartbeats 4000000 in
theorem c_X11_least (l : Launch) (G : Env0) (h : MHp) (a0 : Nat) (a1 : Int32) (res : Int32 × MHp) (hh : mX11_least h a0 a1 = some res) : MG l yX11_least cX11_least 2 (some .int) 6 141 0 0 G h [.ref a0, .int a1] (some (.int res.1)) (res.2) := by
  refine MG_of (own := RX11) (plainFor_of_name (by decide)) rfl (Nat.le_of_ble_eq_true rfl) ?_
  intro p e s m args below meth c Q ls hQ C X hin hm hs hl hr
  have hl : lv_has ls 2 [(0, va_rf (some a0)), (1, .int a1)] := hl
  have B40 : ∀ (h : MHp) (H : Heap) (locs : List Loc) (ls : Array Slot) (a0 : Nat) (v1 : Int32) (t0 : Option Nat) (t1 : Int32) , mHp (gD G) (gC G) (gB G) h H → va_S (fun q => gB G ≤ q) s.heap H locs → lv_has ls 2 [(0, va_rf (some a0)), (1, .int v1)] → mX11_least_b40 h a0 v1 t0 t1 = some res → W p l e ({ frames := 6, cells := 0, slots := 0, locals := 141 }) s m args below meth c H locs 0 0 Q (F0 m 40 ls [.int t1, va_rf t0]) := by
    intro h H locs ls a0 v1 t0 t1 hm hs hl hh
    unfold mX11_least_b40 at hh
    refine r_putI C hm hs flX11_118 (Or.inl fm_12_15) dX11_least_40 hh (fun h1 H locs _ hh hm hs => ?_)
    refine r_aload_n C.1 C.2.1 dX11_least_43 rfl (lv_at hl 0 rfl) ?_
    refine r_getI C hm flX11_118 dX11_least_44 hh (fun x2 _ hh => ?_)
    refine lv_if_ne (tgt := 58) C.1 C.2.1 dX11_least_47 (by decide) (fun c21 => ?_) (fun c21 => ?_)
    · rw [if_neg c21] at hh
      refine lv_bipush (v := (-3)) C.1 C.2.1 dX11_least_58 (by decide) ?_
      exact r_iretW hQ C hr hm hs hh dX11_least_60
    · rw [if_pos c21] at hh
      refine r_aload_n C.1 C.2.1 dX11_least_50 rfl (lv_at hl 0 rfl) ?_
      refine lv_iload_n C.1 C.2.1 dX11_least_51 rfl (lv_at hl 1 rfl) ?_
      refine r_cV C X hm hs mlX11_244 mvX11_244 hh (vv := fun r => some (.int r)) (hp := fun r => h1) (fun b r hg => c_X11_hasTable l G h1 b _ r hg) rfl rfl (Nat.le_of_ble_eq_true rfl) (Nat.le_of_ble_eq_true rfl) (Nat.le_of_ble_eq_true rfl) hl.1 dX11_least_52 (fun b4 r3 H locs hgr3 hh hm hs => ?_)
      refine W.eq (g2 := F0 m 55 ls [.int r3]) rfl ?_
      refine lv_if_ne (tgt := 61) C.1 C.2.1 dX11_least_55 (by decide) (fun c20 => ?_) (fun c20 => ?_)
      · rw [if_neg c20] at hh
        refine r_aload_n C.1 C.2.1 dX11_least_61 rfl (lv_at hl 0 rfl) ?_
        refine r_getR C hm flX11_95 dX11_least_62 hh (fun x5 _ hh => ?_)
        refine r_aload_n C.1 C.2.1 dX11_least_65 rfl (lv_at hl 0 rfl) ?_
        refine r_getR C hm flX11_40 dX11_least_66 hh (fun x6 _ hh => ?_)
        refine lv_iload_n C.1 C.2.1 dX11_least_69 rfl (lv_at hl 1 rfl) ?_
        refine r_ald_q C hm dX11_least_70 (kd := 24) (by decide) (t0 := 4) rfl hh (fun x7 _ hh => ?_)
        refine r_cV C X hm hs mlX11_330 mvX11_330 hh (vv := fun r => none) (hp := fun r => r) (fun b r hg => c_X3_open l G h1 b _ r hg) rfl rfl (Nat.le_of_ble_eq_true rfl) (Nat.le_of_ble_eq_true rfl) (Nat.le_of_ble_eq_true rfl) hl.1 dX11_least_71 (fun b9 r8 H locs hgr8 hh hm hs => ?_)
        refine W.eq (g2 := F0 m 74 ls []) rfl ?_
        refine r_aload_n C.1 C.2.1 dX11_least_74 rfl (lv_at hl 0 rfl) ?_
        refine r_getR C hm flX11_95 dX11_least_75 hh (fun x10 _ hh => ?_)
        refine r_aload_n C.1 C.2.1 dX11_least_78 rfl (lv_at hl 0 rfl) ?_
        refine r_getR C hm flX11_95 dX11_least_79 hh (fun x11 _ hh => ?_)
        refine r_aload_n C.1 C.2.1 dX11_least_82 rfl (lv_at hl 0 rfl) ?_
        refine r_getR C hm flX11_57 dX11_least_83 hh (fun x12 _ hh => ?_)
        refine lv_iconst (v := 0) C.1 C.2.1 dX11_least_86 (by decide) ?_
        refine r_ald C hm dX11_least_87 hh (fun x13 _ hh => ?_)
        refine r_cV C X hm hs mlX11_334 mvX11_334 hh (vv := fun r => some (.long r)) (hp := fun r => r8) (fun b r hg => c_X3_shyCells l G r8 b _ r hg) rfl rfl (by simp [va_cat, vc_i, vc_l, vc_r]) (Nat.le_of_ble_eq_true rfl) (Nat.le_of_ble_eq_true rfl) hl.1 dX11_least_88 (fun b15 r14 H locs hgr14 hh hm hs => ?_)
        refine W.eq (g2 := F0 m 91 ls [.long r14, va_rf x10]) rfl ?_
        refine r_aload_n C.1 C.2.1 dX11_least_91 rfl (lv_at hl 0 rfl) ?_
        refine r_getR C hm flX11_57 dX11_least_92 hh (fun x16 _ hh => ?_)
        refine lv_iconst (v := 1) C.1 C.2.1 dX11_least_95 (by decide) ?_
        refine r_ald C hm dX11_least_96 hh (fun x17 _ hh => ?_)
        refine r_cV C X hm hs mlX11_367 mvX11_367 hh (vv := fun r => some (.int r.1)) (hp := fun r => r.2) (fun b r hg => c_X3_leastSet l G r8 b _ _ r hg) rfl rfl (Nat.le_of_ble_eq_true rfl) (Nat.le_of_ble_eq_true rfl) (Nat.le_of_ble_eq_true rfl) hl.1 dX11_least_97 (fun b19 r18 H locs hgr18 hh hm hs => ?_)
        refine W.eq (g2 := F0 m 100 ls [.int r18.1]) rfl ?_
        exact r_iretW hQ C hr hm hs hh dX11_least_100
      · rw [if_pos c20] at hh
        refine lv_bipush (v := (-3)) C.1 C.2.1 dX11_least_58 (by decide) ?_
        exact r_iretW hQ C hr hm hs hh dX11_least_60
  have B39 : ∀ (h : MHp) (H : Heap) (locs : List Loc) (ls : Array Slot) (a0 : Nat) (v1 : Int32) (t0 : Option Nat) , mHp (gD G) (gC G) (gB G) h H → va_S (fun q => gB G ≤ q) s.heap H locs → lv_has ls 2 [(0, va_rf (some a0)), (1, .int v1)] → mX11_least_b39 h a0 v1 t0 = some res → W p l e ({ frames := 6, cells := 0, slots := 0, locals := 141 }) s m args below meth c H locs 0 0 Q (F0 m 39 ls [va_rf t0]) := by
    intro h H locs ls a0 v1 t0 hm hs hl hh
    unfold mX11_least_b39 at hh
    refine lv_iconst (v := 5) C.1 C.2.1 dX11_least_39 (by decide) ?_
    exact B40 _ _ _ _ _ _ _ _  hm hs (lv_sub hl [0, 1] rfl) hh
  unfold mX11_least at hh
  refine r_aload_n C.1 C.2.1 dX11_least_0 rfl (lv_at hl 0 rfl) ?_
  refine r_aload_n C.1 C.2.1 dX11_least_1 rfl (lv_at hl 0 rfl) ?_
  refine lv_iload_n C.1 C.2.1 dX11_least_2 rfl (lv_at hl 1 rfl) ?_
  refine r_cV C X hm hs mlX11_244 mvX11_244 hh (vv := fun r => some (.int r)) (hp := fun r => h) (fun b r hg => c_X11_hasTable l G h b _ r hg) rfl rfl (by simp [va_cat, vc_i, vc_l, vc_r]) (Nat.le_of_ble_eq_true rfl) (Nat.le_of_ble_eq_true rfl) hl.1 dX11_least_3 (fun b23 r22 H locs hgr22 hh hm hs => ?_)
  refine W.eq (g2 := F0 m 6 ls [.int r22, va_rf (some a0)]) rfl ?_
  refine lv_if_ne (tgt := 13) C.1 C.2.1 dX11_least_6 (by decide) (fun c32 => ?_) (fun c32 => ?_)
  · rw [if_neg c32] at hh
    refine r_aload_n C.1 C.2.1 dX11_least_13 rfl (lv_at hl 0 rfl) ?_
    refine lv_iload_n C.1 C.2.1 dX11_least_14 rfl (lv_at hl 1 rfl) ?_
    refine r_cV C X hm hs mlX11_327 mvX11_327 hh (vv := fun r => some (.int r)) (hp := fun r => h) (fun b r hg => c_X11_hasGuarded l G h b _ r hg) rfl rfl (by simp [va_cat, vc_i, vc_l, vc_r]) (Nat.le_of_ble_eq_true rfl) (Nat.le_of_ble_eq_true rfl) hl.1 dX11_least_15 (fun b25 r24 H locs hgr24 hh hm hs => ?_)
    refine W.eq (g2 := F0 m 18 ls [.int r24, va_rf (some a0)]) rfl ?_
    refine lv_if_eq (tgt := 39) C.1 C.2.1 dX11_least_18 (by decide) (fun c31 => ?_) (fun c31 => ?_)
    · rw [if_pos c31] at hh
      exact B39 _ _ _ _ _ _ _  hm hs (lv_sub hl [0, 1] rfl) hh
    · rw [if_neg c31] at hh
      refine r_aload_n C.1 C.2.1 dX11_least_21 rfl (lv_at hl 0 rfl) ?_
      refine r_getR C hm flX11_40 dX11_least_22 hh (fun x26 _ hh => ?_)
      refine lv_iload_n C.1 C.2.1 dX11_least_25 rfl (lv_at hl 1 rfl) ?_
      refine r_ald_q C hm dX11_least_26 (kd := 24) (by decide) (t0 := 4) rfl hh (fun x27 _ hh => ?_)
      refine r_cV C X hm hs mlX11_364 mvX11_364 hh (vv := fun r => some (.int r)) (hp := fun r => h) (fun b r hg => c_X7_cells l G h b  r hg) rfl rfl (by simp [va_cat, vc_i, vc_l, vc_r]) (Nat.le_of_ble_eq_true rfl) (Nat.le_of_ble_eq_true rfl) hl.1 dX11_least_27 (fun b29 r28 H locs hgr28 hh hm hs => ?_)
      refine W.eq (g2 := F0 m 30 ls [.int r28, va_rf (some a0)]) rfl ?_
      refine lv_bipush (v := 12) C.1 C.2.1 dX11_least_30 (by decide) ?_
      refine lv_icmp_gt (tgt := 39) C.1 C.2.1 dX11_least_32 (by decide) (fun c30 => ?_) (fun c30 => ?_)
      · rw [if_pos c30] at hh
        exact B39 _ _ _ _ _ _ _  hm hs (lv_sub hl [0, 1] rfl) hh
      · rw [if_neg c30] at hh
        refine lv_iconst (v := 0) C.1 C.2.1 dX11_least_35 (by decide) ?_
        refine lv_goto (tgt := 40) C.1 C.2.1 dX11_least_36 (by decide) ?_
        exact B40 _ _ _ _ _ _ _ _  hm hs (lv_sub hl [0, 1] rfl) hh
  · rw [if_pos c32] at hh
    refine lv_iconst (v := 1) C.1 C.2.1 dX11_least_9 (by decide) ?_
    refine lv_goto (tgt := 40) C.1 C.2.1 dX11_least_10 (by decide) ?_
    exact B40 _ _ _ _ _ _ _ _  hm hs (lv_sub hl [0, 1] rfl) hh
def mX11_differing_b44 (h : MHp) (a0 : Nat) (v1 : Int32) (v2 : Int32) (t0 : Option Nat) (t1 : Int32) : Option (Int32 × MHp) := (pI 12 15 h t0 t1).bind fun h1 => (gI 12 15 h1 (some a0)).bind fun x2 => (if x2 = 0 then (rcv 12 h1 (some a0)).bind fun b4 => (mX11_hasTable h1 b4 v1).bind fun r3 => (if r3 = 0 then some ((-1), h1) else (rcv 12 h1 (some a0)).bind fun b6 => (mX11_hasTable h1 b6 v2).bind fun r5 => (if r5 = 0 then some ((-1), h1) else (gR 12 10 h1 (some a0)).bind fun x7 => (gR 12 3 h1 (some a0)).bind fun x8 => (gAR 24 h1 x8 v1).bind fun x9 => (gR 12 3 h1 (some a0)).bind fun x10 => (gAR 24 h1 x10 v2).bind fun x11 => (gR 12 5 h1 (some a0)).bind fun x12 => (gAI 20 h1 x12 0).bind fun x13 => (rcv 4 h1 x7).bind fun b15 => (mX3_differingCells h1 b15 x9 x11 x13).bind fun r14 => some (r14.1, r14.2))) else some ((-1), h1))
def mX11_differing_b17 (h : MHp) (a0 : Nat) (v1 : Int32) (v2 : Int32) (t0 : Option Nat) : Option (Int32 × MHp) := mX11_differing_b44 h a0 v1 v2 t0 1
def mX11_differing (h : MHp) (a0 : Nat) (a1 : Int32) (a2 : Int32) : Option (Int32 × MHp) := (rcv 12 h (some a0)).bind fun b20 => (mX11_hasTable h b20 a1).bind fun r19 => (if r19 = 0 then mX11_differing_b17 h a0 a1 a2 (some a0) else (rcv 12 h (some a0)).bind fun b22 => (mX11_hasTable h b22 a2).bind fun r21 => (if r21 = 0 then mX11_differing_b17 h a0 a1 a2 (some a0) else (gR 12 3 h (some a0)).bind fun x23 => (gAR 24 h x23 a1).bind fun x24 => (gR 12 3 h (some a0)).bind fun x25 => (gAR 24 h x25 a2).bind fun x26 => (rcv 8 h x24).bind fun b28 => (mX7_countsLike h b28 x26).bind fun r27 => (if r27 = 0 then mX11_differing_b44 h a0 a1 a2 (some a0) 5 else mX11_differing_b44 h a0 a1 a2 (some a0) 0)))
set_option maxRecDepth 100000 in
set_option maxHeartbeats 4000000 in
theorem c_X11_differing (l : Launch) (G : Env0) (h : MHp) (a0 : Nat) (a1 : Int32) (a2 : Int32) (res : Int32 × MHp) (hh : mX11_differing h a0 a1 a2 = some res) : MG l yX11_differing cX11_differing 3 (some .int) 6 145 0 0 G h [.ref a0, .int a1, .int a2] (some (.int res.1)) (res.2) := by
  refine MG_of (own := RX11) (plainFor_of_name (by decide)) rfl (Nat.le_of_ble_eq_true rfl) ?_
  intro p e s m args below meth c Q ls hQ C X hin hm hs hl hr
  have hl : lv_has ls 3 [(0, va_rf (some a0)), (1, .int a1), (2, .int a2)] := hl
  have B44 : ∀ (h : MHp) (H : Heap) (locs : List Loc) (ls : Array Slot) (a0 : Nat) (v1 : Int32) (v2 : Int32) (t0 : Option Nat) (t1 : Int32) , mHp (gD G) (gC G) (gB G) h H → va_S (fun q => gB G ≤ q) s.heap H locs → lv_has ls 3 [(0, va_rf (some a0)), (1, .int v1), (2, .int v2)] → mX11_differing_b44 h a0 v1 v2 t0 t1 = some res → W p l e ({ frames := 6, cells := 0, slots := 0, locals := 145 }) s m args below meth c H locs 0 0 Q (F0 m 44 ls [.int t1, va_rf t0]) := by
    intro h H locs ls a0 v1 v2 t0 t1 hm hs hl hh
    unfold mX11_differing_b44 at hh
    refine r_putI C hm hs flX11_118 (Or.inl fm_12_15) dX11_differing_44 hh (fun h1 H locs _ hh hm hs => ?_)
    refine r_aload_n C.1 C.2.1 dX11_differing_47 rfl (lv_at hl 0 rfl) ?_
    refine r_getI C hm flX11_118 dX11_differing_48 hh (fun x2 _ hh => ?_)
    refine lv_if_ne (tgt := 70) C.1 C.2.1 dX11_differing_51 (by decide) (fun c18 => ?_) (fun c18 => ?_)
    · rw [if_neg c18] at hh
      refine lv_iconst (v := (-1)) C.1 C.2.1 dX11_differing_70 (by decide) ?_
      exact r_iretW hQ C hr hm hs hh dX11_differing_71
    · rw [if_pos c18] at hh
      refine r_aload_n C.1 C.2.1 dX11_differing_54 rfl (lv_at hl 0 rfl) ?_
      refine lv_iload_n C.1 C.2.1 dX11_differing_55 rfl (lv_at hl 1 rfl) ?_
      refine r_cV C X hm hs mlX11_244 mvX11_244 hh (vv := fun r => some (.int r)) (hp := fun r => h1) (fun b r hg => c_X11_hasTable l G h1 b _ r hg) rfl rfl (Nat.le_of_ble_eq_true rfl) (Nat.le_of_ble_eq_true rfl) (Nat.le_of_ble_eq_true rfl) hl.1 dX11_differing_56 (fun b4 r3 H locs hgr3 hh hm hs => ?_)
      refine W.eq (g2 := F0 m 59 ls [.int r3]) rfl ?_
      refine lv_if_eq (tgt := 70) C.1 C.2.1 dX11_differing_59 (by decide) (fun c17 => ?_) (fun c17 => ?_)
      · rw [if_pos c17] at hh
        refine lv_iconst (v := (-1)) C.1 C.2.1 dX11_differing_70 (by decide) ?_
        exact r_iretW hQ C hr hm hs hh dX11_differing_71
      · rw [if_neg c17] at hh
        refine r_aload_n C.1 C.2.1 dX11_differing_62 rfl (lv_at hl 0 rfl) ?_
        refine lv_iload_n C.1 C.2.1 dX11_differing_63 rfl (lv_at hl 2 rfl) ?_
        refine r_cV C X hm hs mlX11_244 mvX11_244 hh (vv := fun r => some (.int r)) (hp := fun r => h1) (fun b r hg => c_X11_hasTable l G h1 b _ r hg) rfl rfl (Nat.le_of_ble_eq_true rfl) (Nat.le_of_ble_eq_true rfl) (Nat.le_of_ble_eq_true rfl) hl.1 dX11_differing_64 (fun b6 r5 H locs hgr5 hh hm hs => ?_)
        refine W.eq (g2 := F0 m 67 ls [.int r5]) rfl ?_
        refine lv_if_ne (tgt := 72) C.1 C.2.1 dX11_differing_67 (by decide) (fun c16 => ?_) (fun c16 => ?_)
        · rw [if_neg c16] at hh
          refine r_aload_n C.1 C.2.1 dX11_differing_72 rfl (lv_at hl 0 rfl) ?_
          refine r_getR C hm flX11_95 dX11_differing_73 hh (fun x7 _ hh => ?_)
          refine r_aload_n C.1 C.2.1 dX11_differing_76 rfl (lv_at hl 0 rfl) ?_
          refine r_getR C hm flX11_40 dX11_differing_77 hh (fun x8 _ hh => ?_)
          refine lv_iload_n C.1 C.2.1 dX11_differing_80 rfl (lv_at hl 1 rfl) ?_
          refine r_ald_q C hm dX11_differing_81 (kd := 24) (by decide) (t0 := 4) rfl hh (fun x9 _ hh => ?_)
          refine r_aload_n C.1 C.2.1 dX11_differing_82 rfl (lv_at hl 0 rfl) ?_
          refine r_getR C hm flX11_40 dX11_differing_83 hh (fun x10 _ hh => ?_)
          refine lv_iload_n C.1 C.2.1 dX11_differing_86 rfl (lv_at hl 2 rfl) ?_
          refine r_ald_q C hm dX11_differing_87 (kd := 24) (by decide) (t0 := 4) rfl hh (fun x11 _ hh => ?_)
          refine r_aload_n C.1 C.2.1 dX11_differing_88 rfl (lv_at hl 0 rfl) ?_
          refine r_getR C hm flX11_57 dX11_differing_89 hh (fun x12 _ hh => ?_)
          refine lv_iconst (v := 0) C.1 C.2.1 dX11_differing_92 (by decide) ?_
          refine r_ald C hm dX11_differing_93 hh (fun x13 _ hh => ?_)
          refine r_cV C X hm hs mlX11_375 mvX11_375 hh (vv := fun r => some (.int r.1)) (hp := fun r => r.2) (fun b r hg => c_X3_differingCells l G h1 b _ _ _ r hg) rfl rfl (Nat.le_of_ble_eq_true rfl) (Nat.le_of_ble_eq_true rfl) (Nat.le_of_ble_eq_true rfl) hl.1 dX11_differing_94 (fun b15 r14 H locs hgr14 hh hm hs => ?_)
          refine W.eq (g2 := F0 m 97 ls [.int r14.1]) rfl ?_
          exact r_iretW hQ C hr hm hs hh dX11_differing_97
        · rw [if_pos c16] at hh
          refine lv_iconst (v := (-1)) C.1 C.2.1 dX11_differing_70 (by decide) ?_
          exact r_iretW hQ C hr hm hs hh dX11_differing_71
  have B17 : ∀ (h : MHp) (H : Heap) (locs : List Loc) (ls : Array Slot) (a0 : Nat) (v1 : Int32) (v2 : Int32) (t0 : Option Nat) , mHp (gD G) (gC G) (gB G) h H → va_S (fun q => gB G ≤ q) s.heap H locs → lv_has ls 3 [(0, va_rf (some a0)), (1, .int v1), (2, .int v2)] → mX11_differing_b17 h a0 v1 v2 t0 = some res → W p l e ({ frames := 6, cells := 0, slots := 0, locals := 145 }) s m args below meth c H locs 0 0 Q (F0 m 17 ls [va_rf t0]) := by
    intro h H locs ls a0 v1 v2 t0 hm hs hl hh
    unfold mX11_differing_b17 at hh
    refine lv_iconst (v := 1) C.1 C.2.1 dX11_differing_17 (by decide) ?_
    refine lv_goto (tgt := 44) C.1 C.2.1 dX11_differing_18 (by decide) ?_
    exact B44 _ _ _ _ _ _ _ _ _  hm hs (lv_sub hl [0, 1, 2] rfl) hh
  unfold mX11_differing at hh
  refine r_aload_n C.1 C.2.1 dX11_differing_0 rfl (lv_at hl 0 rfl) ?_
  refine r_aload_n C.1 C.2.1 dX11_differing_1 rfl (lv_at hl 0 rfl) ?_
  refine lv_iload_n C.1 C.2.1 dX11_differing_2 rfl (lv_at hl 1 rfl) ?_
  refine r_cV C X hm hs mlX11_244 mvX11_244 hh (vv := fun r => some (.int r)) (hp := fun r => h) (fun b r hg => c_X11_hasTable l G h b _ r hg) rfl rfl (by simp [va_cat, vc_i, vc_l, vc_r]) (Nat.le_of_ble_eq_true rfl) (Nat.le_of_ble_eq_true rfl) hl.1 dX11_differing_3 (fun b20 r19 H locs hgr19 hh hm hs => ?_)
  refine W.eq (g2 := F0 m 6 ls [.int r19, va_rf (some a0)]) rfl ?_
  refine lv_if_eq (tgt := 17) C.1 C.2.1 dX11_differing_6 (by decide) (fun c31 => ?_) (fun c31 => ?_)
  · rw [if_pos c31] at hh
    exact B17 _ _ _ _ _ _ _ _  hm hs (lv_sub hl [0, 1, 2] rfl) hh
  · rw [if_neg c31] at hh
    refine r_aload_n C.1 C.2.1 dX11_differing_9 rfl (lv_at hl 0 rfl) ?_
    refine lv_iload_n C.1 C.2.1 dX11_differing_10 rfl (lv_at hl 2 rfl) ?_
    refine r_cV C X hm hs mlX11_244 mvX11_244 hh (vv := fun r => some (.int r)) (hp := fun r => h) (fun b r hg => c_X11_hasTable l G h b _ r hg) rfl rfl (by simp [va_cat, vc_i, vc_l, vc_r]) (Nat.le_of_ble_eq_true rfl) (Nat.le_of_ble_eq_true rfl) hl.1 dX11_differing_11 (fun b22 r21 H locs hgr21 hh hm hs => ?_)
    refine W.eq (g2 := F0 m 14 ls [.int r21, va_rf (some a0)]) rfl ?_
    refine lv_if_ne (tgt := 21) C.1 C.2.1 dX11_differing_14 (by decide) (fun c30 => ?_) (fun c30 => ?_)
    · rw [if_neg c30] at hh
      refine r_aload_n C.1 C.2.1 dX11_differing_21 rfl (lv_at hl 0 rfl) ?_
      refine r_getR C hm flX11_40 dX11_differing_22 hh (fun x23 _ hh => ?_)
      refine lv_iload_n C.1 C.2.1 dX11_differing_25 rfl (lv_at hl 1 rfl) ?_
      refine r_ald_q C hm dX11_differing_26 (kd := 24) (by decide) (t0 := 4) rfl hh (fun x24 _ hh => ?_)
      refine r_aload_n C.1 C.2.1 dX11_differing_27 rfl (lv_at hl 0 rfl) ?_
      refine r_getR C hm flX11_40 dX11_differing_28 hh (fun x25 _ hh => ?_)
      refine lv_iload_n C.1 C.2.1 dX11_differing_31 rfl (lv_at hl 2 rfl) ?_
      refine r_ald_q C hm dX11_differing_32 (kd := 24) (by decide) (t0 := 4) rfl hh (fun x26 _ hh => ?_)
      refine r_cV C X hm hs mlX11_371 mvX11_371 hh (vv := fun r => some (.int r)) (hp := fun r => h) (fun b r hg => c_X7_countsLike l G h b _ r hg) rfl rfl (by simp [va_cat, vc_i, vc_l, vc_r]) (Nat.le_of_ble_eq_true rfl) (Nat.le_of_ble_eq_true rfl) hl.1 dX11_differing_33 (fun b28 r27 H locs hgr27 hh hm hs => ?_)
      refine W.eq (g2 := F0 m 36 ls [.int r27, va_rf (some a0)]) rfl ?_
      refine lv_if_eq (tgt := 43) C.1 C.2.1 dX11_differing_36 (by decide) (fun c29 => ?_) (fun c29 => ?_)
      · rw [if_pos c29] at hh
        refine lv_iconst (v := 5) C.1 C.2.1 dX11_differing_43 (by decide) ?_
        exact B44 _ _ _ _ _ _ _ _ _  hm hs (lv_sub hl [0, 1, 2] rfl) hh
      · rw [if_neg c29] at hh
        refine lv_iconst (v := 0) C.1 C.2.1 dX11_differing_39 (by decide) ?_
        refine lv_goto (tgt := 44) C.1 C.2.1 dX11_differing_40 (by decide) ?_
        exact B44 _ _ _ _ _ _ _ _ _  hm hs (lv_sub hl [0, 1, 2] rfl) hh
    · rw [if_pos c30] at hh
      exact B17 _ _ _ _ _ _ _ _  hm hs (lv_sub hl [0, 1, 2] rfl) hh
def mX11_lot_b42 (h : MHp) (a0 : Nat) (v1 : Int32) (t0 : Option Nat) (t1 : Int32) : Option (Int32 × MHp) := (pI 12 15 h t0 t1).bind fun h1 => (gI 12 15 h1 (some a0)).bind fun x2 => (if x2 = 0 then (gR 12 11 h1 (some a0)).bind fun x3 => (rcv 5 h1 x3).bind fun b5 => (mX4_add h1 b5 v1).bind fun r4 => some (r4.1, r4.2) else some ((-1), h1))
def mX11_lot (h : MHp) (a0 : Nat) (a1 : Int32) : Option (Int32 × MHp) := (rcv 12 h (some a0)).bind fun b8 => (mX11_hasBook h b8).bind fun r7 => (if r7 = 0 then mX11_lot_b42 h a0 a1 (some a0) 1 else (mX11_isWithin h a1 (-9) 9).bind fun r9 => (if r9 = 0 then mX11_lot_b42 h a0 a1 (some a0) 2 else (gR 12 11 h (some a0)).bind fun x10 => (rcv 5 h x10).bind fun b12 => (mX4_isFull h b12).bind fun r11 => (if r11 = 0 then mX11_lot_b42 h a0 a1 (some a0) 0 else mX11_lot_b42 h a0 a1 (some a0) 3)))
set_option maxRecDepth 100000 in
set_option maxHeartbeats 4000000 in
theorem c_X11_lot (l : Launch) (G : Env0) (h : MHp) (a0 : Nat) (a1 : Int32) (res : Int32 × MHp) (hh : mX11_lot h a0 a1 = some res) : MG l yX11_lot cX11_lot 2 (some .int) 2 42 0 0 G h [.ref a0, .int a1] (some (.int res.1)) (res.2) := by
  refine MG_of (own := RX11) (plainFor_of_name (by decide)) rfl (Nat.le_of_ble_eq_true rfl) ?_
  intro p e s m args below meth c Q ls hQ C X hin hm hs hl hr
  have hl : lv_has ls 2 [(0, va_rf (some a0)), (1, .int a1)] := hl
  have B42 : ∀ (h : MHp) (H : Heap) (locs : List Loc) (ls : Array Slot) (a0 : Nat) (v1 : Int32) (t0 : Option Nat) (t1 : Int32) , mHp (gD G) (gC G) (gB G) h H → va_S (fun q => gB G ≤ q) s.heap H locs → lv_has ls 2 [(0, va_rf (some a0)), (1, .int v1)] → mX11_lot_b42 h a0 v1 t0 t1 = some res → W p l e ({ frames := 2, cells := 0, slots := 0, locals := 42 }) s m args below meth c H locs 0 0 Q (F0 m 42 ls [.int t1, va_rf t0]) := by
    intro h H locs ls a0 v1 t0 t1 hm hs hl hh
    unfold mX11_lot_b42 at hh
    refine r_putI C hm hs flX11_118 (Or.inl fm_12_15) dX11_lot_42 hh (fun h1 H locs _ hh hm hs => ?_)
    refine r_aload_n C.1 C.2.1 dX11_lot_45 rfl (lv_at hl 0 rfl) ?_
    refine r_getI C hm flX11_118 dX11_lot_46 hh (fun x2 _ hh => ?_)
    refine lv_if_ne (tgt := 63) C.1 C.2.1 dX11_lot_49 (by decide) (fun c6 => ?_) (fun c6 => ?_)
    · rw [if_neg c6] at hh
      refine lv_iconst (v := (-1)) C.1 C.2.1 dX11_lot_63 (by decide) ?_
      exact r_iretW hQ C hr hm hs hh dX11_lot_64
    · rw [if_pos c6] at hh
      refine r_aload_n C.1 C.2.1 dX11_lot_52 rfl (lv_at hl 0 rfl) ?_
      refine r_getR C hm flX11_102 dX11_lot_53 hh (fun x3 _ hh => ?_)
      refine lv_iload_n C.1 C.2.1 dX11_lot_56 rfl (lv_at hl 1 rfl) ?_
      refine r_cV C X hm hs mlX11_380 mvX11_380 hh (vv := fun r => some (.int r.1)) (hp := fun r => r.2) (fun b r hg => c_X4_add l G h1 b _ r hg) rfl rfl (Nat.le_of_ble_eq_true rfl) (Nat.le_of_ble_eq_true rfl) (Nat.le_of_ble_eq_true rfl) hl.1 dX11_lot_57 (fun b5 r4 H locs hgr4 hh hm hs => ?_)
      refine W.eq (g2 := F0 m 60 ls [.int r4.1]) rfl ?_
      refine lv_goto (tgt := 64) C.1 C.2.1 dX11_lot_60 (by decide) ?_
      exact r_iretW hQ C hr hm hs hh dX11_lot_64
  unfold mX11_lot at hh
  refine r_aload_n C.1 C.2.1 dX11_lot_0 rfl (lv_at hl 0 rfl) ?_
  refine r_aload_n C.1 C.2.1 dX11_lot_1 rfl (lv_at hl 0 rfl) ?_
  refine r_cV C X hm hs mlX11_151 mvX11_151 hh (vv := fun r => some (.int r)) (hp := fun r => h) (fun b r hg => c_X11_hasBook l G h b  r hg) rfl rfl (by simp [va_cat, vc_i, vc_l, vc_r]) (Nat.le_of_ble_eq_true rfl) (Nat.le_of_ble_eq_true rfl) hl.1 dX11_lot_2 (fun b8 r7 H locs hgr7 hh hm hs => ?_)
  refine W.eq (g2 := F0 m 5 ls [.int r7, va_rf (some a0)]) rfl ?_
  refine lv_if_ne (tgt := 12) C.1 C.2.1 dX11_lot_5 (by decide) (fun c15 => ?_) (fun c15 => ?_)
  · rw [if_neg c15] at hh
    refine lv_iload_n C.1 C.2.1 dX11_lot_12 rfl (lv_at hl 1 rfl) ?_
    refine lv_bipush (v := (-9)) C.1 C.2.1 dX11_lot_13 (by decide) ?_
    refine lv_bipush (v := 9) C.1 C.2.1 dX11_lot_15 (by decide) ?_
    refine r_cS C X hm hs mlX11_188 msX11_188 hh (vv := fun r => some (.int r)) (hp := fun r => h) (fun r hg => c_X11_isWithin l G h _ _ _ r hg) rfl rfl (by simp [va_cat, vc_i, vc_l, vc_r]) (Nat.le_of_ble_eq_true rfl) (Nat.le_of_ble_eq_true rfl) hl.1 dX11_lot_17 (fun r9 H locs hgr9 hh hm hs => ?_)
    refine W.eq (g2 := F0 m 20 ls [.int r9, va_rf (some a0)]) rfl ?_
    refine lv_if_ne (tgt := 27) C.1 C.2.1 dX11_lot_20 (by decide) (fun c14 => ?_) (fun c14 => ?_)
    · rw [if_neg c14] at hh
      refine r_aload_n C.1 C.2.1 dX11_lot_27 rfl (lv_at hl 0 rfl) ?_
      refine r_getR C hm flX11_102 dX11_lot_28 hh (fun x10 _ hh => ?_)
      refine r_cV C X hm hs mlX11_379 mvX11_379 hh (vv := fun r => some (.int r)) (hp := fun r => h) (fun b r hg => c_X4_isFull l G h b  r hg) rfl rfl (by simp [va_cat, vc_i, vc_l, vc_r]) (Nat.le_of_ble_eq_true rfl) (Nat.le_of_ble_eq_true rfl) hl.1 dX11_lot_31 (fun b12 r11 H locs hgr11 hh hm hs => ?_)
      refine W.eq (g2 := F0 m 34 ls [.int r11, va_rf (some a0)]) rfl ?_
      refine lv_if_eq (tgt := 41) C.1 C.2.1 dX11_lot_34 (by decide) (fun c13 => ?_) (fun c13 => ?_)
      · rw [if_pos c13] at hh
        refine lv_iconst (v := 0) C.1 C.2.1 dX11_lot_41 (by decide) ?_
        exact B42 _ _ _ _ _ _ _ _  hm hs (lv_sub hl [0, 1] rfl) hh
      · rw [if_neg c13] at hh
        refine lv_iconst (v := 3) C.1 C.2.1 dX11_lot_37 (by decide) ?_
        refine lv_goto (tgt := 42) C.1 C.2.1 dX11_lot_38 (by decide) ?_
        exact B42 _ _ _ _ _ _ _ _  hm hs (lv_sub hl [0, 1] rfl) hh
    · rw [if_pos c14] at hh
      refine lv_iconst (v := 2) C.1 C.2.1 dX11_lot_23 (by decide) ?_
      refine lv_goto (tgt := 42) C.1 C.2.1 dX11_lot_24 (by decide) ?_
      exact B42 _ _ _ _ _ _ _ _  hm hs (lv_sub hl [0, 1] rfl) hh
  · rw [if_pos c15] at hh
    refine lv_iconst (v := 1) C.1 C.2.1 dX11_lot_8 (by decide) ?_
    refine lv_goto (tgt := 42) C.1 C.2.1 dX11_lot_9 (by decide) ?_
    exact B42 _ _ _ _ _ _ _ _  hm hs (lv_sub hl [0, 1] rfl) hh
def mX11_noise_b115 (h : MHp) (a0 : Nat) : Option (Int64 × MHp) := (pI 12 15 h (some a0) 5).bind fun h1 => some ((-9223372036854775808), h1)
def mX11_noise_b16 (h : MHp) (a0 : Nat) (v1 : Int32) (v2 : Int32) (v3 : Int32) (t0 : Option Nat) (t1 : Int32) : Option (Int64 × MHp) := (pI 12 15 h t0 t1).bind fun h2 => (gI 12 15 h2 (some a0)).bind fun x3 => (if x3 = 0 then (rcv 12 h2 (some a0)).bind fun b5 => (mX11_hasTable h2 b5 v1).bind fun r4 => (if r4 = 0 then some ((-9223372036854775808), h2) else (gR 12 3 h2 (some a0)).bind fun x6 => (gAR 24 h2 x6 v1).bind fun x7 => (rcv 8 h2 x7).bind fun b9 => (mX7_cellAt h2 b9 v2 v3).bind fun r8 => (gR 12 7 h2 (some a0)).bind fun x10 => (gR 12 2 h2 (some a0)).bind fun x11 => (gI 10 7 h2 x11).bind fun x12 => (rcv 3 h2 x10).bind fun b14 => (mX2_sumOf h2 b14 x7 r8 x12 0).bind fun r13 => (rcv 8 r13.2 x7).bind fun b16 => (mX7_wasTold r13.2 b16 r8 r13.1).bind fun r15 => (if r15 = 0 then (gR 12 11 r13.2 (some a0)).bind fun x17 => (gI 5 0 r13.2 x17).bind fun x18 => (if x18 = 0 then mX11_noise_b115 r13.2 a0 else (gR 12 5 r13.2 (some a0)).bind fun x19 => (gAI 20 r13.2 x19 3).bind fun x20 => (if x20 = 0 then mX11_noise_b115 r13.2 a0 else (gR 12 5 r13.2 (some a0)).bind fun x21 => (gAI 20 r13.2 x21 3).bind fun x22 => (pAI 20 r13.2 x21 3 (x22 - 1)).bind fun h23 => (gR 12 11 h23 (some a0)).bind fun x24 => (rcv 5 h23 x24).bind fun b26 => (mX4_take h23 b26).bind fun r25 => (mJ9_max_f86c9 r25.2 0 (r13.1 + r25.1.toInt64)).bind fun r27 => (rcv 8 r25.2 x7).bind fun b29 => (mX7_tell r25.2 b29 r8 r13.1 r27).bind fun r28 => some (r27, r28))) else (rcv 8 r13.2 x7).bind fun b33 => (mX7_toldAtLast r13.2 b33 r8).bind fun r32 => some (r32, r13.2))) else some ((-9223372036854775808), h2))
def mX11_noise (h : MHp) (a0 : Nat) (a1 : Int32) (a2 : Int32) (a3 : Int32) : Option (Int64 × MHp) := (rcv 12 h (some a0)).bind fun b38 => (mX11_hasCell h b38 a1 a2 a3).bind fun r37 => (if r37 = 0 then mX11_noise_b16 h a0 a1 a2 a3 (some a0) 1 else mX11_noise_b16 h a0 a1 a2 a3 (some a0) 0)
set_option maxRecDepth 100000 in
set_option maxHeartbeats 4000000 in
theorem c_X11_noise (l : Launch) (G : Env0) (h : MHp) (a0 : Nat) (a1 : Int32) (a2 : Int32) (a3 : Int32) (res : Int64 × MHp) (hh : mX11_noise h a0 a1 a2 a3 = some res) : MG l yX11_noise cX11_noise 10 (some .long) 5 123 0 0 G h [.ref a0, .int a1, .int a2, .int a3] (some (.long res.1)) (res.2) := by
  refine MG_of (own := RX11) (plainFor_of_name (by decide)) rfl (Nat.le_of_ble_eq_true rfl) ?_
  intro p e s m args below meth c Q ls hQ C X hin hm hs hl hr
  have hl : lv_has ls 10 [(0, va_rf (some a0)), (1, .int a1), (2, .int a2), (3, .int a3)] := hl
  have B115 : ∀ (h : MHp) (H : Heap) (locs : List Loc) (ls : Array Slot) (a0 : Nat) , mHp (gD G) (gC G) (gB G) h H → va_S (fun q => gB G ≤ q) s.heap H locs → lv_has ls 10 [(0, va_rf (some a0))] → mX11_noise_b115 h a0 = some res → W p l e ({ frames := 5, cells := 0, slots := 0, locals := 123 }) s m args below meth c H locs 0 0 Q (F0 m 115 ls []) := by
    intro h H locs ls a0 hm hs hl hh
    unfold mX11_noise_b115 at hh
    refine r_aload_n C.1 C.2.1 dX11_noise_115 rfl (lv_at hl 0 rfl) ?_
    refine lv_iconst (v := 5) C.1 C.2.1 dX11_noise_116 (by decide) ?_
    refine r_putI C hm hs flX11_118 (Or.inl fm_12_15) dX11_noise_117 hh (fun h1 H locs _ hh hm hs => ?_)
    refine lv_ldc2 (v := (-9223372036854775808)) C.1 C.2.1 C.2.2.2.1 (C.2.2.2.2.1 _ (in_tbl q_894 rfl)) dX11_noise_120 ?_
    exact r_lretW hQ C hr hm hs hh dX11_noise_123
  have B16 : ∀ (h : MHp) (H : Heap) (locs : List Loc) (ls : Array Slot) (a0 : Nat) (v1 : Int32) (v2 : Int32) (v3 : Int32) (t0 : Option Nat) (t1 : Int32) , mHp (gD G) (gC G) (gB G) h H → va_S (fun q => gB G ≤ q) s.heap H locs → lv_has ls 10 [(0, va_rf (some a0)), (1, .int v1), (2, .int v2), (3, .int v3)] → mX11_noise_b16 h a0 v1 v2 v3 t0 t1 = some res → W p l e ({ frames := 5, cells := 0, slots := 0, locals := 123 }) s m args below meth c H locs 0 0 Q (F0 m 16 ls [.int t1, va_rf t0]) := by
    intro h H locs ls a0 v1 v2 v3 t0 t1 hm hs hl hh
    unfold mX11_noise_b16 at hh
    refine r_putI C hm hs flX11_118 (Or.inl fm_12_15) dX11_noise_16 hh (fun h2 H locs _ hh hm hs => ?_)
    refine r_aload_n C.1 C.2.1 dX11_noise_19 rfl (lv_at hl 0 rfl) ?_
    refine r_getI C hm flX11_118 dX11_noise_20 hh (fun x3 _ hh => ?_)
    refine lv_if_ne (tgt := 34) C.1 C.2.1 dX11_noise_23 (by decide) (fun c36 => ?_) (fun c36 => ?_)
    · rw [if_neg c36] at hh
      refine lv_ldc2 (v := (-9223372036854775808)) C.1 C.2.1 C.2.2.2.1 (C.2.2.2.2.1 _ (in_tbl q_894 rfl)) dX11_noise_34 ?_
      exact r_lretW hQ C hr hm hs hh dX11_noise_37
    · rw [if_pos c36] at hh
      refine r_aload_n C.1 C.2.1 dX11_noise_26 rfl (lv_at hl 0 rfl) ?_
      refine lv_iload_n C.1 C.2.1 dX11_noise_27 rfl (lv_at hl 1 rfl) ?_
      refine r_cV C X hm hs mlX11_244 mvX11_244 hh (vv := fun r => some (.int r)) (hp := fun r => h2) (fun b r hg => c_X11_hasTable l G h2 b _ r hg) rfl rfl (Nat.le_of_ble_eq_true rfl) (Nat.le_of_ble_eq_true rfl) (Nat.le_of_ble_eq_true rfl) hl.1 dX11_noise_28 (fun b5 r4 H locs hgr4 hh hm hs => ?_)
      refine W.eq (g2 := F0 m 31 ls [.int r4]) rfl ?_
      refine lv_if_ne (tgt := 38) C.1 C.2.1 dX11_noise_31 (by decide) (fun c35 => ?_) (fun c35 => ?_)
      · rw [if_neg c35] at hh
        refine r_aload_n C.1 C.2.1 dX11_noise_38 rfl (lv_at hl 0 rfl) ?_
        refine r_getR C hm flX11_40 dX11_noise_39 hh (fun x6 _ hh => ?_)
        refine lv_iload_n C.1 C.2.1 dX11_noise_42 rfl (lv_at hl 1 rfl) ?_
        refine r_ald_q C hm dX11_noise_43 (kd := 24) (by decide) (t0 := 4) rfl hh (fun x7 _ hh => ?_)
        refine r_astore (i := 4) (lv' := [(4, va_rf x7), (0, va_rf (some a0)), (1, .int v1), (2, .int v2), (3, .int v3)]) C.1 C.2.1 dX11_noise_44 hl (by decide) rfl (fun ls hl => ?_)
        refine r_aload C.1 C.2.1 dX11_noise_46 (lv_at hl 0 rfl) ?_
        refine lv_iload_n C.1 C.2.1 dX11_noise_48 rfl (lv_at hl 3 rfl) ?_
        refine lv_iload_n C.1 C.2.1 dX11_noise_49 rfl (lv_at hl 4 rfl) ?_
        refine r_cV C X hm hs mlX11_254 mvX11_254 hh (vv := fun r => some (.int r)) (hp := fun r => h2) (fun b r hg => c_X7_cellAt l G h2 b _ _ r hg) rfl rfl (Nat.le_of_ble_eq_true rfl) (Nat.le_of_ble_eq_true rfl) (Nat.le_of_ble_eq_true rfl) hl.1 dX11_noise_50 (fun b9 r8 H locs hgr8 hh hm hs => ?_)
        refine W.eq (g2 := F0 m 53 ls [.int r8]) rfl ?_
        refine lv_istore (i := 5) (lv' := [(5, .int r8), (4, va_rf x7), (0, va_rf (some a0)), (1, .int v1), (2, .int v2), (3, .int v3)]) C.1 C.2.1 dX11_noise_53 hl (by decide) (by simp [va_cat, vc_i, vc_l, vc_r]) (fun ls hl => ?_)
        refine r_aload_n C.1 C.2.1 dX11_noise_55 rfl (lv_at hl 2 rfl) ?_
        refine r_getR C hm flX11_72 dX11_noise_56 hh (fun x10 _ hh => ?_)
        refine r_aload C.1 C.2.1 dX11_noise_59 (lv_at hl 1 rfl) ?_
        refine lv_iload C.1 C.2.1 dX11_noise_61 (lv_at hl 0 rfl) ?_
        refine r_aload_n C.1 C.2.1 dX11_noise_63 rfl (lv_at hl 2 rfl) ?_
        refine r_getR C hm flX11_34 dX11_noise_64 hh (fun x11 _ hh => ?_)
        refine r_getI C hm flX11_201 dX11_noise_67 hh (fun x12 _ hh => ?_)
        refine lv_iconst (v := 0) C.1 C.2.1 dX11_noise_70 (by decide) ?_
        refine r_cV C X hm hs mlX11_257 mvX11_257 hh (vv := fun r => some (.long r.1)) (hp := fun r => r.2) (fun b r hg => c_X2_sumOf l G h2 b _ _ _ _ r hg) rfl rfl (Nat.le_of_ble_eq_true rfl) (Nat.le_of_ble_eq_true rfl) (Nat.le_of_ble_eq_true rfl) hl.1 dX11_noise_71 (fun b14 r13 H locs hgr13 hh hm hs => ?_)
        refine W.eq (g2 := F0 m 74 ls [.long r13.1]) rfl ?_
        refine lv_lstore (i := 6) (lv' := [(6, .long r13.1), (5, .int r8), (4, va_rf x7), (0, va_rf (some a0)), (1, .int v1), (2, .int v2), (3, .int v3)]) C.1 C.2.1 dX11_noise_74 hl (by decide) rfl (fun ls hl => ?_)
        refine r_aload C.1 C.2.1 dX11_noise_76 (lv_at hl 2 rfl) ?_
        refine lv_iload C.1 C.2.1 dX11_noise_78 (lv_at hl 1 rfl) ?_
        refine lv_lload C.1 C.2.1 dX11_noise_80 (lv_at hl 0 rfl) ?_
        refine r_cV C X hm hs mlX11_382 mvX11_382 hh (vv := fun r => some (.int r)) (hp := fun r => r13.2) (fun b r hg => c_X7_wasTold l G r13.2 b _ _ r hg) rfl rfl (Nat.le_of_ble_eq_true rfl) (Nat.le_of_ble_eq_true rfl) (Nat.le_of_ble_eq_true rfl) hl.1 dX11_noise_82 (fun b16 r15 H locs hgr15 hh hm hs => ?_)
        refine W.eq (g2 := F0 m 85 ls [.int r15]) rfl ?_
        refine lv_if_eq (tgt := 96) C.1 C.2.1 dX11_noise_85 (by decide) (fun c34 => ?_) (fun c34 => ?_)
        · rw [if_pos c34] at hh
          refine r_aload_n C.1 C.2.1 dX11_noise_96 rfl (lv_at hl 3 rfl) ?_
          refine r_getR C hm flX11_102 dX11_noise_97 hh (fun x17 _ hh => ?_)
          refine r_getI C hm flX11_388 dX11_noise_100 hh (fun x18 _ hh => ?_)
          refine lv_if_eq (tgt := 115) C.1 C.2.1 dX11_noise_103 (by decide) (fun c31 => ?_) (fun c31 => ?_)
          · rw [if_pos c31] at hh
            exact B115 _ _ _ _ _  hm hs (lv_sub hl [3] rfl) hh
          · rw [if_neg c31] at hh
            refine r_aload_n C.1 C.2.1 dX11_noise_106 rfl (lv_at hl 3 rfl) ?_
            refine r_getR C hm flX11_57 dX11_noise_107 hh (fun x19 _ hh => ?_)
            refine lv_iconst (v := 3) C.1 C.2.1 dX11_noise_110 (by decide) ?_
            refine r_ald C hm dX11_noise_111 hh (fun x20 _ hh => ?_)
            refine lv_if_ne (tgt := 124) C.1 C.2.1 dX11_noise_112 (by decide) (fun c30 => ?_) (fun c30 => ?_)
            · rw [if_neg c30] at hh
              refine r_aload_n C.1 C.2.1 dX11_noise_124 rfl (lv_at hl 3 rfl) ?_
              refine r_getR C hm flX11_57 dX11_noise_125 hh (fun x21 _ hh => ?_)
              refine lv_iconst (v := 3) C.1 C.2.1 dX11_noise_128 (by decide) ?_
              refine lv_dup2_11 C.1 C.2.1 dX11_noise_129 rfl (va_cat _) ?_
              refine r_ald C hm dX11_noise_130 hh (fun x22 _ hh => ?_)
              refine lv_iconst (v := 1) C.1 C.2.1 dX11_noise_131 (by decide) ?_
              refine lv_isub C.1 C.2.1 dX11_noise_132 ?_
              refine r_ast C hm hs dX11_noise_133 hh (fun h23 H locs _ hh hm hs => ?_)
              refine lv_lconst (v := 0) C.1 C.2.1 dX11_noise_134 (by decide) ?_
              refine lv_lload C.1 C.2.1 dX11_noise_135 (lv_at hl 0 rfl) ?_
              refine r_aload_n C.1 C.2.1 dX11_noise_137 rfl (lv_at hl 3 rfl) ?_
              refine r_getR C hm flX11_102 dX11_noise_138 hh (fun x24 _ hh => ?_)
              refine r_cV C X hm hs mlX11_391 mvX11_391 hh (vv := fun r => some (.int r.1)) (hp := fun r => r.2) (fun b r hg => c_X4_take l G h23 b  r hg) rfl rfl (Nat.le_of_ble_eq_true rfl) (Nat.le_of_ble_eq_true rfl) (Nat.le_of_ble_eq_true rfl) hl.1 dX11_noise_141 (fun b26 r25 H locs hgr25 hh hm hs => ?_)
              refine W.eq (g2 := F0 m 144 ls [.int r25.1, .long r13.1, .long 0]) rfl ?_
              refine lv_i2l (v := r25.1.toInt64) C.1 C.2.1 dX11_noise_144 rfl ?_
              refine lv_ladd C.1 C.2.1 dX11_noise_145 ?_
              refine r_cS C X hm hs mlX11_261 msX11_261 hh (vv := fun r => some (.long r)) (hp := fun r => r25.2) (fun r hg => c_J9_max_f86c9 l G r25.2 _ _ r hg) rfl rfl (Nat.le_of_ble_eq_true rfl) (Nat.le_of_ble_eq_true rfl) (Nat.le_of_ble_eq_true rfl) hl.1 dX11_noise_146 (fun r27 H locs hgr27 hh hm hs => ?_)
              refine W.eq (g2 := F0 m 149 ls [.long r27]) rfl ?_
              refine lv_lstore (i := 8) (lv' := [(8, .long r27), (6, .long r13.1), (5, .int r8), (4, va_rf x7), (0, va_rf (some a0)), (1, .int v1), (2, .int v2), (3, .int v3)]) C.1 C.2.1 dX11_noise_149 hl (by decide) rfl (fun ls hl => ?_)
              refine r_aload C.1 C.2.1 dX11_noise_151 (lv_at hl 3 rfl) ?_
              refine lv_iload C.1 C.2.1 dX11_noise_153 (lv_at hl 2 rfl) ?_
              refine lv_lload C.1 C.2.1 dX11_noise_155 (lv_at hl 1 rfl) ?_
              refine lv_lload C.1 C.2.1 dX11_noise_157 (lv_at hl 0 rfl) ?_
              refine r_cV C X hm hs mlX11_394 mvX11_394 hh (vv := fun r => none) (hp := fun r => r) (fun b r hg => c_X7_tell l G r25.2 b _ _ _ r hg) rfl rfl (Nat.le_of_ble_eq_true rfl) (Nat.le_of_ble_eq_true rfl) (Nat.le_of_ble_eq_true rfl) hl.1 dX11_noise_159 (fun b29 r28 H locs hgr28 hh hm hs => ?_)
              refine W.eq (g2 := F0 m 162 ls []) rfl ?_
              refine lv_lload C.1 C.2.1 dX11_noise_162 (lv_at hl 0 rfl) ?_
              exact r_lretW hQ C hr hm hs hh dX11_noise_164
            · rw [if_pos c30] at hh
              exact B115 _ _ _ _ _  hm hs (lv_sub hl [3] rfl) hh
        · rw [if_neg c34] at hh
          refine r_aload C.1 C.2.1 dX11_noise_88 (lv_at hl 2 rfl) ?_
          refine lv_iload C.1 C.2.1 dX11_noise_90 (lv_at hl 1 rfl) ?_
          refine r_cV C X hm hs mlX11_385 mvX11_385 hh (vv := fun r => some (.long r)) (hp := fun r => r13.2) (fun b r hg => c_X7_toldAtLast l G r13.2 b _ r hg) rfl rfl (Nat.le_of_ble_eq_true rfl) (Nat.le_of_ble_eq_true rfl) (Nat.le_of_ble_eq_true rfl) hl.1 dX11_noise_92 (fun b33 r32 H locs hgr32 hh hm hs => ?_)
          refine W.eq (g2 := F0 m 95 ls [.long r32]) rfl ?_
          exact r_lretW hQ C hr hm hs hh dX11_noise_95
      · rw [if_pos c35] at hh
        refine lv_ldc2 (v := (-9223372036854775808)) C.1 C.2.1 C.2.2.2.1 (C.2.2.2.2.1 _ (in_tbl q_894 rfl)) dX11_noise_34 ?_
        exact r_lretW hQ C hr hm hs hh dX11_noise_37
  unfold mX11_noise at hh
  refine r_aload_n C.1 C.2.1 dX11_noise_0 rfl (lv_at hl 0 rfl) ?_
  refine r_aload_n C.1 C.2.1 dX11_noise_1 rfl (lv_at hl 0 rfl) ?_
  refine lv_iload_n C.1 C.2.1 dX11_noise_2 rfl (lv_at hl 1 rfl) ?_
  refine lv_iload_n C.1 C.2.1 dX11_noise_3 rfl (lv_at hl 2 rfl) ?_
  refine lv_iload_n C.1 C.2.1 dX11_noise_4 rfl (lv_at hl 3 rfl) ?_
  refine r_cV C X hm hs mlX11_250 mvX11_250 hh (vv := fun r => some (.int r)) (hp := fun r => h) (fun b r hg => c_X11_hasCell l G h b _ _ _ r hg) rfl rfl (by simp [va_cat, vc_i, vc_l, vc_r]) (Nat.le_of_ble_eq_true rfl) (Nat.le_of_ble_eq_true rfl) hl.1 dX11_noise_5 (fun b38 r37 H locs hgr37 hh hm hs => ?_)
  refine W.eq (g2 := F0 m 8 ls [.int r37, va_rf (some a0)]) rfl ?_
  refine lv_if_eq (tgt := 15) C.1 C.2.1 dX11_noise_8 (by decide) (fun c39 => ?_) (fun c39 => ?_)
  · rw [if_pos c39] at hh
    refine lv_iconst (v := 1) C.1 C.2.1 dX11_noise_15 (by decide) ?_
    exact B16 _ _ _ _ _ _ _ _ _ _  hm hs (lv_sub hl [0, 1, 2, 3] rfl) hh
  · rw [if_neg c39] at hh
    refine lv_iconst (v := 0) C.1 C.2.1 dX11_noise_11 (by decide) ?_
    refine lv_goto (tgt := 16) C.1 C.2.1 dX11_noise_12 (by decide) ?_
    exact B16 _ _ _ _ _ _ _ _ _ _  hm hs (lv_sub hl [0, 1, 2, 3] rfl) hh
def mX11_count (h : MHp) (a0 : Nat) (a1 : Int32) : Option (Int32 × MHp) := (if a1 = 0 then (gR 12 2 h (some a0)).bind fun x2 => (gR 10 5 h x2).bind fun x3 => (gI 2 4 h x3).bind fun x4 => some (x4, h) else (if a1 = 1 then (gR 12 2 h (some a0)).bind fun x5 => (gR 10 5 h x5).bind fun x6 => (gI 2 5 h x6).bind fun x7 => some (x7, h) else (if a1 = 2 then (gR 12 2 h (some a0)).bind fun x8 => (gI 10 6 h x8).bind fun x9 => some (x9, h) else (if a1 = 3 then (gI 12 14 h (some a0)).bind fun x10 => some (x10, h) else (if a1 = 4 then (gR 12 2 h (some a0)).bind fun x11 => (gI 10 7 h x11).bind fun x12 => some (x12, h) else (if a1 = 5 then (gR 12 2 h (some a0)).bind fun x13 => (rcv 10 h x13).bind fun b15 => (mX9_countBroken h b15).bind fun r14 => some (r14.1, r14.2) else (if a1 = 6 then (gR 12 2 h (some a0)).bind fun x16 => (gR 12 2 h (some a0)).bind fun x17 => (gR 10 2 h x17).bind fun x18 => (rcv 10 h x16).bind fun b20 => (mX9_countSince h b20 x18).bind fun r19 => some (r19, h) else (if a1 = 7 then (gR 12 2 h (some a0)).bind fun x21 => (gR 12 2 h (some a0)).bind fun x22 => (gR 10 3 h x22).bind fun x23 => (rcv 10 h x21).bind fun b25 => (mX9_countSince h b25 x23).bind fun r24 => some (r24, h) else (if a1 = 8 then (gR 12 11 h (some a0)).bind fun x26 => (gI 5 0 h x26).bind fun x27 => some (x27, h) else (if a1 = 9 then (gR 12 5 h (some a0)).bind fun x28 => (gAI 20 h x28 3).bind fun x29 => some (x29, h) else (if a1 = 10 then (gI 12 13 h (some a0)).bind fun x30 => some (x30, h) else some ((-1), h))))))))))))
set_option maxRecDepth 100000 in
set_option maxHeartbeats 4000000 in
theorem c_X11_count (l : Launch) (G : Env0) (h : MHp) (a0 : Nat) (a1 : Int32) (res : Int32 × MHp) (hh : mX11_count h a0 a1 = some res) : MG l yX11_count cX11_count 2 (some .int) 6 137 0 0 G h [.ref a0, .int a1] (some (.int res.1)) (res.2) := by
  refine MG_of (own := RX11) (plainFor_of_name (by decide)) rfl (Nat.le_of_ble_eq_true rfl) ?_
  intro p e s m args below meth c Q ls hQ C X hin hm hs hl hr
  have hl : lv_has ls 2 [(0, va_rf (some a0)), (1, .int a1)] := hl
  unfold mX11_count at hh
  refine lv_iload_n C.1 C.2.1 dX11_count_0 rfl (lv_at hl 1 rfl) ?_
  by_cases c1_0 : a1 = 0
  · rw [if_pos c1_0] at hh
    refine r_tsw (tgt := 60) C dX11_count_1 c1_0 (by decide) (by decide) rfl (by decide) ?_
    refine r_aload_n C.1 C.2.1 dX11_count_60 rfl (lv_at hl 0 rfl) ?_
    refine r_getR C hm flX11_34 dX11_count_61 hh (fun x2 _ hh => ?_)
    refine r_getR C hm flX11_125 dX11_count_64 hh (fun x3 _ hh => ?_)
    refine r_getI C hm flX11_134 dX11_count_67 hh (fun x4 _ hh => ?_)
    exact r_iretW hQ C hr hm hs hh dX11_count_70
  · rw [if_neg c1_0] at hh
    by_cases c1_1 : a1 = 1
    · rw [if_pos c1_1] at hh
      refine r_tsw (tgt := 71) C dX11_count_1 c1_1 (by decide) (by decide) rfl (by decide) ?_
      refine r_aload_n C.1 C.2.1 dX11_count_71 rfl (lv_at hl 0 rfl) ?_
      refine r_getR C hm flX11_34 dX11_count_72 hh (fun x5 _ hh => ?_)
      refine r_getR C hm flX11_125 dX11_count_75 hh (fun x6 _ hh => ?_)
      refine r_getI C hm flX11_405 dX11_count_78 hh (fun x7 _ hh => ?_)
      exact r_iretW hQ C hr hm hs hh dX11_count_81
    · rw [if_neg c1_1] at hh
      by_cases c1_2 : a1 = 2
      · rw [if_pos c1_2] at hh
        refine r_tsw (tgt := 82) C dX11_count_1 c1_2 (by decide) (by decide) rfl (by decide) ?_
        refine r_aload_n C.1 C.2.1 dX11_count_82 rfl (lv_at hl 0 rfl) ?_
        refine r_getR C hm flX11_34 dX11_count_83 hh (fun x8 _ hh => ?_)
        refine r_getI C hm flX11_408 dX11_count_86 hh (fun x9 _ hh => ?_)
        exact r_iretW hQ C hr hm hs hh dX11_count_89
      · rw [if_neg c1_2] at hh
        by_cases c1_3 : a1 = 3
        · rw [if_pos c1_3] at hh
          refine r_tsw (tgt := 90) C dX11_count_1 c1_3 (by decide) (by decide) rfl (by decide) ?_
          refine r_aload_n C.1 C.2.1 dX11_count_90 rfl (lv_at hl 0 rfl) ?_
          refine r_getI C hm flX11_137 dX11_count_91 hh (fun x10 _ hh => ?_)
          exact r_iretW hQ C hr hm hs hh dX11_count_94
        · rw [if_neg c1_3] at hh
          by_cases c1_4 : a1 = 4
          · rw [if_pos c1_4] at hh
            refine r_tsw (tgt := 95) C dX11_count_1 c1_4 (by decide) (by decide) rfl (by decide) ?_
            refine r_aload_n C.1 C.2.1 dX11_count_95 rfl (lv_at hl 0 rfl) ?_
            refine r_getR C hm flX11_34 dX11_count_96 hh (fun x11 _ hh => ?_)
            refine r_getI C hm flX11_201 dX11_count_99 hh (fun x12 _ hh => ?_)
            exact r_iretW hQ C hr hm hs hh dX11_count_102
          · rw [if_neg c1_4] at hh
            by_cases c1_5 : a1 = 5
            · rw [if_pos c1_5] at hh
              refine r_tsw (tgt := 103) C dX11_count_1 c1_5 (by decide) (by decide) rfl (by decide) ?_
              refine r_aload_n C.1 C.2.1 dX11_count_103 rfl (lv_at hl 0 rfl) ?_
              refine r_getR C hm flX11_34 dX11_count_104 hh (fun x13 _ hh => ?_)
              refine r_cV C X hm hs mlX11_411 mvX11_411 hh (vv := fun r => some (.int r.1)) (hp := fun r => r.2) (fun b r hg => c_X9_countBroken l G h b  r hg) rfl rfl (Nat.le_of_ble_eq_true rfl) (Nat.le_of_ble_eq_true rfl) (Nat.le_of_ble_eq_true rfl) hl.1 dX11_count_107 (fun b15 r14 H locs hgr14 hh hm hs => ?_)
              refine W.eq (g2 := F0 m 110 ls [.int r14.1]) rfl ?_
              exact r_iretW hQ C hr hm hs hh dX11_count_110
            · rw [if_neg c1_5] at hh
              by_cases c1_6 : a1 = 6
              · rw [if_pos c1_6] at hh
                refine r_tsw (tgt := 111) C dX11_count_1 c1_6 (by decide) (by decide) rfl (by decide) ?_
                refine r_aload_n C.1 C.2.1 dX11_count_111 rfl (lv_at hl 0 rfl) ?_
                refine r_getR C hm flX11_34 dX11_count_112 hh (fun x16 _ hh => ?_)
                refine r_aload_n C.1 C.2.1 dX11_count_115 rfl (lv_at hl 0 rfl) ?_
                refine r_getR C hm flX11_34 dX11_count_116 hh (fun x17 _ hh => ?_)
                refine r_getR C hm flX11_222 dX11_count_119 hh (fun x18 _ hh => ?_)
                refine r_cV C X hm hs mlX11_414 mvX11_414 hh (vv := fun r => some (.int r)) (hp := fun r => h) (fun b r hg => c_X9_countSince l G h b _ r hg) rfl rfl (Nat.le_of_ble_eq_true rfl) (Nat.le_of_ble_eq_true rfl) (Nat.le_of_ble_eq_true rfl) hl.1 dX11_count_122 (fun b20 r19 H locs hgr19 hh hm hs => ?_)
                refine W.eq (g2 := F0 m 125 ls [.int r19]) rfl ?_
                exact r_iretW hQ C hr hm hs hh dX11_count_125
              · rw [if_neg c1_6] at hh
                by_cases c1_7 : a1 = 7
                · rw [if_pos c1_7] at hh
                  refine r_tsw (tgt := 126) C dX11_count_1 c1_7 (by decide) (by decide) rfl (by decide) ?_
                  refine r_aload_n C.1 C.2.1 dX11_count_126 rfl (lv_at hl 0 rfl) ?_
                  refine r_getR C hm flX11_34 dX11_count_127 hh (fun x21 _ hh => ?_)
                  refine r_aload_n C.1 C.2.1 dX11_count_130 rfl (lv_at hl 0 rfl) ?_
                  refine r_getR C hm flX11_34 dX11_count_131 hh (fun x22 _ hh => ?_)
                  refine r_getR C hm flX11_225 dX11_count_134 hh (fun x23 _ hh => ?_)
                  refine r_cV C X hm hs mlX11_414 mvX11_414 hh (vv := fun r => some (.int r)) (hp := fun r => h) (fun b r hg => c_X9_countSince l G h b _ r hg) rfl rfl (Nat.le_of_ble_eq_true rfl) (Nat.le_of_ble_eq_true rfl) (Nat.le_of_ble_eq_true rfl) hl.1 dX11_count_137 (fun b25 r24 H locs hgr24 hh hm hs => ?_)
                  refine W.eq (g2 := F0 m 140 ls [.int r24]) rfl ?_
                  exact r_iretW hQ C hr hm hs hh dX11_count_140
                · rw [if_neg c1_7] at hh
                  by_cases c1_8 : a1 = 8
                  · rw [if_pos c1_8] at hh
                    refine r_tsw (tgt := 141) C dX11_count_1 c1_8 (by decide) (by decide) rfl (by decide) ?_
                    refine r_aload_n C.1 C.2.1 dX11_count_141 rfl (lv_at hl 0 rfl) ?_
                    refine r_getR C hm flX11_102 dX11_count_142 hh (fun x26 _ hh => ?_)
                    refine r_getI C hm flX11_388 dX11_count_145 hh (fun x27 _ hh => ?_)
                    exact r_iretW hQ C hr hm hs hh dX11_count_148
                  · rw [if_neg c1_8] at hh
                    by_cases c1_9 : a1 = 9
                    · rw [if_pos c1_9] at hh
                      refine r_tsw (tgt := 149) C dX11_count_1 c1_9 (by decide) (by decide) rfl (by decide) ?_
                      refine r_aload_n C.1 C.2.1 dX11_count_149 rfl (lv_at hl 0 rfl) ?_
                      refine r_getR C hm flX11_57 dX11_count_150 hh (fun x28 _ hh => ?_)
                      refine lv_iconst (v := 3) C.1 C.2.1 dX11_count_153 (by decide) ?_
                      refine r_ald C hm dX11_count_154 hh (fun x29 _ hh => ?_)
                      exact r_iretW hQ C hr hm hs hh dX11_count_155
                    · rw [if_neg c1_9] at hh
                      by_cases c1_10 : a1 = 10
                      · rw [if_pos c1_10] at hh
                        refine r_tsw (tgt := 156) C dX11_count_1 c1_10 (by decide) (by decide) rfl (by decide) ?_
                        refine r_aload_n C.1 C.2.1 dX11_count_156 rfl (lv_at hl 0 rfl) ?_
                        refine r_getI C hm flX11_106 dX11_count_157 hh (fun x30 _ hh => ?_)
                        exact r_iretW hQ C hr hm hs hh dX11_count_160
                      · rw [if_neg c1_10] at hh
                        refine lv_tableOut (tgt := 161) C.1 C.2.1 dX11_count_1 (tsw_out11 c1_0 c1_1 c1_2 c1_3 c1_4 c1_5 c1_6 c1_7 c1_8 c1_9 c1_10) (by decide) ?_
                        refine lv_iconst (v := (-1)) C.1 C.2.1 dX11_count_161 (by decide) ?_
                        exact r_iretW hQ C hr hm hs hh dX11_count_162
def mX11_trouble (h : MHp) (a0 : Nat) : Option (Int32) := (gI 12 15 h (some a0)).bind fun x1 => some x1
set_option maxRecDepth 100000 in
set_option maxHeartbeats 4000000 in
theorem c_X11_trouble (l : Launch) (G : Env0) (h : MHp) (a0 : Nat) (res : Int32) (hh : mX11_trouble h a0 = some res) : MG l yX11_trouble cX11_trouble 1 (some .int) 0 0 0 0 G h [.ref a0] (some (.int res)) (h) := by
  refine MG_of (own := RX11) (plainFor_of_name (by decide)) rfl (Nat.le_of_ble_eq_true rfl) ?_
  intro p e s m args below meth c Q ls hQ C X hin hm hs hl hr
  have hl : lv_has ls 1 [(0, va_rf (some a0))] := hl
  unfold mX11_trouble at hh
  refine r_aload_n C.1 C.2.1 dX11_trouble_0 rfl (lv_at hl 0 rfl) ?_
  refine r_getI C hm flX11_118 dX11_trouble_1 hh (fun x1 _ hh => ?_)
  exact r_iretP hQ C hr hm hs hh dX11_trouble_4

def mX16_init (h : MHp) (a0 : Nat) : Option (MHp) := (pI 17 2 h (some a0) (-1)).bind fun h1 => (some (nA h1 26 8)).bind fun h2 => (pR 17 6 h2 (some a0) (some (hS h1))).bind fun h3 => (some (nO h3 14 8)).bind fun h4 => (mX13_init h4 (hS h3)).bind fun r5 => (pR 17 8 r5 (some a0) (some (hS h3))).bind fun h7 => (some (nA h7 22 500)).bind fun h8 => (pR 17 9 h8 (some a0) (some (hS h7))).bind fun h9 => (some (nA h9 20 360)).bind fun h10 => (pR 17 20 h10 (some a0) (some (hS h9))).bind fun h11 => (some (nA h11 20 360)).bind fun h12 => (pR 17 21 h12 (some a0) (some (hS h11))).bind fun h13 => (some (nA h13 20 1800)).bind fun h14 => (pR 17 22 h14 (some a0) (some (hS h13))).bind fun h15 => (some (nA h15 20 60)).bind fun h16 => (pR 17 23 h16 (some a0) (some (hS h15))).bind fun h17 => (some (nA h17 20 60)).bind fun h18 => (pR 17 24 h18 (some a0) (some (hS h17))).bind fun h19 => (some (nA h19 20 60)).bind fun h20 => (pR 17 25 h20 (some a0) (some (hS h19))).bind fun h21 => (some (nA h21 20 60)).bind fun h22 => (pR 17 26 h22 (some a0) (some (hS h21))).bind fun h23 => (some (nA h23 20 60)).bind fun h24 => (pR 17 27 h24 (some a0) (some (hS h23))).bind fun h25 => (some (nA h25 20 60)).bind fun h26 => (pR 17 28 h26 (some a0) (some (hS h25))).bind fun h27 => (some (nA h27 20 6)).bind fun h28 => (pR 17 29 h28 (some a0) (some (hS h27))).bind fun h29 => (some (nA h29 20 6)).bind fun h30 => (pR 17 30 h30 (some a0) (some (hS h29))).bind fun h31 => (some (nA h31 20 6)).bind fun h32 => (pR 17 31 h32 (some a0) (some (hS h31))).bind fun h33 => (pI 17 32 h33 (some a0) (-1)).bind fun h34 => (some (nA h34 20 60)).bind fun h35 => (pR 17 33 h35 (some a0) (some (hS h34))).bind fun h36 => (pI 17 34 h36 (some a0) (-1)).bind fun h37 => (some (nA h37 20 10)).bind fun h38 => (pR 17 35 h38 (some a0) (some (hS h37))).bind fun h39 => (some (nA h39 20 60)).bind fun h40 => (pR 17 36 h40 (some a0) (some (hS h39))).bind fun h41 => (pI 17 37 h41 (some a0) 3).bind fun h42 => (pI 17 38 h42 (some a0) 3).bind fun h43 => (pI 17 39 h43 (some a0) 10).bind fun h44 => (some (nA h44 20 100)).bind fun h45 => (pR 17 42 h45 (some a0) (some (hS h44))).bind fun h46 => (some (nA h46 20 100)).bind fun h47 => (pR 17 43 h47 (some a0) (some (hS h46))).bind fun h48 => (some (nA h48 20 100)).bind fun h49 => (pR 17 44 h49 (some a0) (some (hS h48))).bind fun h50 => (some (nA h50 20 20)).bind fun h51 => (pR 17 47 h51 (some a0) (some (hS h50))).bind fun h52 => (some (nA h52 20 20)).bind fun h53 => (pR 17 48 h53 (some a0) (some (hS h52))).bind fun h54 => (some (nA h54 20 100)).bind fun h55 => (pR 17 50 h55 (some a0) (some (hS h54))).bind fun h56 => some h56
set_option maxRecDepth 100000 in
set_option maxHeartbeats 4000000 in
theorem c_X16_init (l : Launch) (G : Env0) (h : MHp) (a0 : Nat) (res : MHp) (hh : mX16_init h a0 = some res) : MG l yX16_init cX16_init 1 none 5 104 24 3984 G h [.ref a0] (none) (res) := by
  refine MG_of (own := RX16) (plainFor_of_name (by decide)) rfl (Nat.le_of_ble_eq_true rfl) ?_
  intro p e s m args below meth c Q ls hQ C X hin hm hs hl hr
  have hl : lv_has ls 1 [(0, va_rf (some a0))] := hl
  unfold mX16_init at hh
  refine r_aload_n C.1 C.2.1 dX16_init_0 rfl (lv_at hl 0 rfl) ?_
  refine r_objInit C (in_tbl q_1287 rfl) (in_tbl q_37 rfl) (in_tbl q_38 rfl) hl.1 dX16_init_1 (Nat.le_of_ble_eq_true rfl) (Nat.le_of_ble_eq_true rfl) ?_
  refine r_aload_n C.1 C.2.1 dX16_init_4 rfl (lv_at hl 0 rfl) ?_
  refine lv_iconst (v := (-1)) C.1 C.2.1 dX16_init_5 (by decide) ?_
  refine r_putI C hm hs flX16_9 (Or.inl fm_17_2) dX16_init_6 hh (fun h1 H locs _ hh hm hs => ?_)
  refine r_aload_n C.1 C.2.1 dX16_init_9 rfl (lv_at hl 0 rfl) ?_
  refine lv_bipush (v := 8) C.1 C.2.1 dX16_init_10 (by decide) ?_
  refine r_newqG C hm hs (kd := 26) (t0 := 6) (by decide) rfl X.2.2.1.2.2.1 (in_tbl q_1288 rfl) dX16_init_12 (N := 8) (by decide) (by decide) (by decide) hh (Nat.le_of_ble_eq_true rfl) (Nat.le_of_ble_eq_true rfl) (fun h2 H hh hm hs => ?_)
  refine r_putR C hm hs flX16_15 (Or.inr ⟨ffX16_15, hin rfl⟩) dX16_init_15 hh (fun h3 H locs _ hh hm hs => ?_)
  refine r_aload_n C.1 C.2.1 dX16_init_18 rfl (lv_at hl 0 rfl) ?_
  refine r_newG C hm hs nlX16_19 (Nat.le_of_ble_eq_true rfl) (Nat.le_of_ble_eq_true rfl) dX16_init_19 hh (fun h4 H hh hm hs => ?_)
  refine lv_dup C.1 C.2.1 dX16_init_22 (va_cat _) ?_
  refine r_cC C X hm hs mlX16_21 mcX16_21 hh (hp := fun r => r) (fun r hg => c_X13_init l G h4 _  r hg) rfl rfl (by simp [va_cat, vc_i, vc_l, vc_r]) (Nat.le_of_ble_eq_true rfl) (Nat.le_of_ble_eq_true rfl) ⟨(Nat.le_of_ble_eq_true rfl), (Nat.le_of_ble_eq_true rfl)⟩ hl.1 dX16_init_23 (fun r5 H locs hgr5 hh hm hs => ?_)
  refine r_putR C hm hs flX16_22 (Or.inr ⟨ffX16_22, hin rfl⟩) dX16_init_26 hh (fun h7 H locs _ hh hm hs => ?_)
  refine r_aload_n C.1 C.2.1 dX16_init_29 rfl (lv_at hl 0 rfl) ?_
  refine lv_sipush (v := 500) C.1 C.2.1 dX16_init_30 (by decide) ?_
  refine r_newaG C hm hs (kd := 22) (w := 1) (by decide) aw22 dX16_init_33 (N := 500) (by decide) (by decide) (by decide) hh (Nat.le_of_ble_eq_true rfl) (Nat.le_of_ble_eq_true rfl) (fun h8 H hh hm hs => ?_)
  refine r_putR C hm hs flX16_26 (Or.inr ⟨ffX16_26, hin rfl⟩) dX16_init_35 hh (fun h9 H locs _ hh hm hs => ?_)
  refine r_aload_n C.1 C.2.1 dX16_init_38 rfl (lv_at hl 0 rfl) ?_
  refine lv_sipush (v := 360) C.1 C.2.1 dX16_init_39 (by decide) ?_
  refine r_newaG C hm hs (kd := 20) (w := 4) (by decide) aw20 dX16_init_42 (N := 360) (by decide) (by decide) (by decide) hh (Nat.le_of_ble_eq_true rfl) (Nat.le_of_ble_eq_true rfl) (fun h10 H hh hm hs => ?_)
  refine r_putR C hm hs flX16_30 (Or.inr ⟨ffX16_30, hin rfl⟩) dX16_init_44 hh (fun h11 H locs _ hh hm hs => ?_)
  refine r_aload_n C.1 C.2.1 dX16_init_47 rfl (lv_at hl 0 rfl) ?_
  refine lv_sipush (v := 360) C.1 C.2.1 dX16_init_48 (by decide) ?_
  refine r_newaG C hm hs (kd := 20) (w := 4) (by decide) aw20 dX16_init_51 (N := 360) (by decide) (by decide) (by decide) hh (Nat.le_of_ble_eq_true rfl) (Nat.le_of_ble_eq_true rfl) (fun h12 H hh hm hs => ?_)
  refine r_putR C hm hs flX16_34 (Or.inr ⟨ffX16_34, hin rfl⟩) dX16_init_53 hh (fun h13 H locs _ hh hm hs => ?_)
  refine r_aload_n C.1 C.2.1 dX16_init_56 rfl (lv_at hl 0 rfl) ?_
  refine lv_sipush (v := 1800) C.1 C.2.1 dX16_init_57 (by decide) ?_
  refine r_newaG C hm hs (kd := 20) (w := 4) (by decide) aw20 dX16_init_60 (N := 1800) (by decide) (by decide) (by decide) hh (Nat.le_of_ble_eq_true rfl) (Nat.le_of_ble_eq_true rfl) (fun h14 H hh hm hs => ?_)
  refine r_putR C hm hs flX16_37 (Or.inr ⟨ffX16_37, hin rfl⟩) dX16_init_62 hh (fun h15 H locs _ hh hm hs => ?_)
  refine r_aload_n C.1 C.2.1 dX16_init_65 rfl (lv_at hl 0 rfl) ?_
  refine lv_bipush (v := 60) C.1 C.2.1 dX16_init_66 (by decide) ?_
  refine r_newaG C hm hs (kd := 20) (w := 4) (by decide) aw20 dX16_init_68 (N := 60) (by decide) (by decide) (by decide) hh (Nat.le_of_ble_eq_true rfl) (Nat.le_of_ble_eq_true rfl) (fun h16 H hh hm hs => ?_)
  refine r_putR C hm hs flX16_40 (Or.inr ⟨ffX16_40, hin rfl⟩) dX16_init_70 hh (fun h17 H locs _ hh hm hs => ?_)
  refine r_aload_n C.1 C.2.1 dX16_init_73 rfl (lv_at hl 0 rfl) ?_
  refine lv_bipush (v := 60) C.1 C.2.1 dX16_init_74 (by decide) ?_
  refine r_newaG C hm hs (kd := 20) (w := 4) (by decide) aw20 dX16_init_76 (N := 60) (by decide) (by decide) (by decide) hh (Nat.le_of_ble_eq_true rfl) (Nat.le_of_ble_eq_true rfl) (fun h18 H hh hm hs => ?_)
  refine r_putR C hm hs flX16_43 (Or.inr ⟨ffX16_43, hin rfl⟩) dX16_init_78 hh (fun h19 H locs _ hh hm hs => ?_)
  refine r_aload_n C.1 C.2.1 dX16_init_81 rfl (lv_at hl 0 rfl) ?_
  refine lv_bipush (v := 60) C.1 C.2.1 dX16_init_82 (by decide) ?_
  refine r_newaG C hm hs (kd := 20) (w := 4) (by decide) aw20 dX16_init_84 (N := 60) (by decide) (by decide) (by decide) hh (Nat.le_of_ble_eq_true rfl) (Nat.le_of_ble_eq_true rfl) (fun h20 H hh hm hs => ?_)
  refine r_putR C hm hs flX16_46 (Or.inr ⟨ffX16_46, hin rfl⟩) dX16_init_86 hh (fun h21 H locs _ hh hm hs => ?_)
  refine r_aload_n C.1 C.2.1 dX16_init_89 rfl (lv_at hl 0 rfl) ?_
  refine lv_bipush (v := 60) C.1 C.2.1 dX16_init_90 (by decide) ?_
  refine r_newaG C hm hs (kd := 20) (w := 4) (by decide) aw20 dX16_init_92 (N := 60) (by decide) (by decide) (by decide) hh (Nat.le_of_ble_eq_true rfl) (Nat.le_of_ble_eq_true rfl) (fun h22 H hh hm hs => ?_)
  refine r_putR C hm hs flX16_49 (Or.inr ⟨ffX16_49, hin rfl⟩) dX16_init_94 hh (fun h23 H locs _ hh hm hs => ?_)
  refine r_aload_n C.1 C.2.1 dX16_init_97 rfl (lv_at hl 0 rfl) ?_
  refine lv_bipush (v := 60) C.1 C.2.1 dX16_init_98 (by decide) ?_
  refine r_newaG C hm hs (kd := 20) (w := 4) (by decide) aw20 dX16_init_100 (N := 60) (by decide) (by decide) (by decide) hh (Nat.le_of_ble_eq_true rfl) (Nat.le_of_ble_eq_true rfl) (fun h24 H hh hm hs => ?_)
  refine r_putR C hm hs flX16_52 (Or.inr ⟨ffX16_52, hin rfl⟩) dX16_init_102 hh (fun h25 H locs _ hh hm hs => ?_)
  refine r_aload_n C.1 C.2.1 dX16_init_105 rfl (lv_at hl 0 rfl) ?_
  refine lv_bipush (v := 60) C.1 C.2.1 dX16_init_106 (by decide) ?_
  refine r_newaG C hm hs (kd := 20) (w := 4) (by decide) aw20 dX16_init_108 (N := 60) (by decide) (by decide) (by decide) hh (Nat.le_of_ble_eq_true rfl) (Nat.le_of_ble_eq_true rfl) (fun h26 H hh hm hs => ?_)
  refine r_putR C hm hs flX16_55 (Or.inr ⟨ffX16_55, hin rfl⟩) dX16_init_110 hh (fun h27 H locs _ hh hm hs => ?_)
  refine r_aload_n C.1 C.2.1 dX16_init_113 rfl (lv_at hl 0 rfl) ?_
  refine lv_bipush (v := 6) C.1 C.2.1 dX16_init_114 (by decide) ?_
  refine r_newaG C hm hs (kd := 20) (w := 4) (by decide) aw20 dX16_init_116 (N := 6) (by decide) (by decide) (by decide) hh (Nat.le_of_ble_eq_true rfl) (Nat.le_of_ble_eq_true rfl) (fun h28 H hh hm hs => ?_)
  refine r_putR C hm hs flX16_58 (Or.inr ⟨ffX16_58, hin rfl⟩) dX16_init_118 hh (fun h29 H locs _ hh hm hs => ?_)
  refine r_aload_n C.1 C.2.1 dX16_init_121 rfl (lv_at hl 0 rfl) ?_
  refine lv_bipush (v := 6) C.1 C.2.1 dX16_init_122 (by decide) ?_
  refine r_newaG C hm hs (kd := 20) (w := 4) (by decide) aw20 dX16_init_124 (N := 6) (by decide) (by decide) (by decide) hh (Nat.le_of_ble_eq_true rfl) (Nat.le_of_ble_eq_true rfl) (fun h30 H hh hm hs => ?_)
  refine r_putR C hm hs flX16_61 (Or.inr ⟨ffX16_61, hin rfl⟩) dX16_init_126 hh (fun h31 H locs _ hh hm hs => ?_)
  refine r_aload_n C.1 C.2.1 dX16_init_129 rfl (lv_at hl 0 rfl) ?_
  refine lv_bipush (v := 6) C.1 C.2.1 dX16_init_130 (by decide) ?_
  refine r_newaG C hm hs (kd := 20) (w := 4) (by decide) aw20 dX16_init_132 (N := 6) (by decide) (by decide) (by decide) hh (Nat.le_of_ble_eq_true rfl) (Nat.le_of_ble_eq_true rfl) (fun h32 H hh hm hs => ?_)
  refine r_putR C hm hs flX16_64 (Or.inr ⟨ffX16_64, hin rfl⟩) dX16_init_134 hh (fun h33 H locs _ hh hm hs => ?_)
  refine r_aload_n C.1 C.2.1 dX16_init_137 rfl (lv_at hl 0 rfl) ?_
  refine lv_iconst (v := (-1)) C.1 C.2.1 dX16_init_138 (by decide) ?_
  refine r_putI C hm hs flX16_67 (Or.inl fm_17_32) dX16_init_139 hh (fun h34 H locs _ hh hm hs => ?_)
  refine r_aload_n C.1 C.2.1 dX16_init_142 rfl (lv_at hl 0 rfl) ?_
  refine lv_bipush (v := 60) C.1 C.2.1 dX16_init_143 (by decide) ?_
  refine r_newaG C hm hs (kd := 20) (w := 4) (by decide) aw20 dX16_init_145 (N := 60) (by decide) (by decide) (by decide) hh (Nat.le_of_ble_eq_true rfl) (Nat.le_of_ble_eq_true rfl) (fun h35 H hh hm hs => ?_)
  refine r_putR C hm hs flX16_70 (Or.inr ⟨ffX16_70, hin rfl⟩) dX16_init_147 hh (fun h36 H locs _ hh hm hs => ?_)
  refine r_aload_n C.1 C.2.1 dX16_init_150 rfl (lv_at hl 0 rfl) ?_
  refine lv_iconst (v := (-1)) C.1 C.2.1 dX16_init_151 (by decide) ?_
  refine r_putI C hm hs flX16_73 (Or.inl fm_17_34) dX16_init_152 hh (fun h37 H locs _ hh hm hs => ?_)
  refine r_aload_n C.1 C.2.1 dX16_init_155 rfl (lv_at hl 0 rfl) ?_
  refine lv_bipush (v := 10) C.1 C.2.1 dX16_init_156 (by decide) ?_
  refine r_newaG C hm hs (kd := 20) (w := 4) (by decide) aw20 dX16_init_158 (N := 10) (by decide) (by decide) (by decide) hh (Nat.le_of_ble_eq_true rfl) (Nat.le_of_ble_eq_true rfl) (fun h38 H hh hm hs => ?_)
  refine r_putR C hm hs flX16_76 (Or.inr ⟨ffX16_76, hin rfl⟩) dX16_init_160 hh (fun h39 H locs _ hh hm hs => ?_)
  refine r_aload_n C.1 C.2.1 dX16_init_163 rfl (lv_at hl 0 rfl) ?_
  refine lv_bipush (v := 60) C.1 C.2.1 dX16_init_164 (by decide) ?_
  refine r_newaG C hm hs (kd := 20) (w := 4) (by decide) aw20 dX16_init_166 (N := 60) (by decide) (by decide) (by decide) hh (Nat.le_of_ble_eq_true rfl) (Nat.le_of_ble_eq_true rfl) (fun h40 H hh hm hs => ?_)
  refine r_putR C hm hs flX16_79 (Or.inr ⟨ffX16_79, hin rfl⟩) dX16_init_168 hh (fun h41 H locs _ hh hm hs => ?_)
  refine r_aload_n C.1 C.2.1 dX16_init_171 rfl (lv_at hl 0 rfl) ?_
  refine lv_iconst (v := 3) C.1 C.2.1 dX16_init_172 (by decide) ?_
  refine r_putI C hm hs flX16_82 (Or.inl fm_17_37) dX16_init_173 hh (fun h42 H locs _ hh hm hs => ?_)
  refine r_aload_n C.1 C.2.1 dX16_init_176 rfl (lv_at hl 0 rfl) ?_
  refine lv_iconst (v := 3) C.1 C.2.1 dX16_init_177 (by decide) ?_
  refine r_putI C hm hs flX16_85 (Or.inl fm_17_38) dX16_init_178 hh (fun h43 H locs _ hh hm hs => ?_)
  refine r_aload_n C.1 C.2.1 dX16_init_181 rfl (lv_at hl 0 rfl) ?_
  refine lv_bipush (v := 10) C.1 C.2.1 dX16_init_182 (by decide) ?_
  refine r_putI C hm hs flX16_88 (Or.inl fm_17_39) dX16_init_184 hh (fun h44 H locs _ hh hm hs => ?_)
  refine r_aload_n C.1 C.2.1 dX16_init_187 rfl (lv_at hl 0 rfl) ?_
  refine lv_bipush (v := 100) C.1 C.2.1 dX16_init_188 (by decide) ?_
  refine r_newaG C hm hs (kd := 20) (w := 4) (by decide) aw20 dX16_init_190 (N := 100) (by decide) (by decide) (by decide) hh (Nat.le_of_ble_eq_true rfl) (Nat.le_of_ble_eq_true rfl) (fun h45 H hh hm hs => ?_)
  refine r_putR C hm hs flX16_91 (Or.inr ⟨ffX16_91, hin rfl⟩) dX16_init_192 hh (fun h46 H locs _ hh hm hs => ?_)
  refine r_aload_n C.1 C.2.1 dX16_init_195 rfl (lv_at hl 0 rfl) ?_
  refine lv_bipush (v := 100) C.1 C.2.1 dX16_init_196 (by decide) ?_
  refine r_newaG C hm hs (kd := 20) (w := 4) (by decide) aw20 dX16_init_198 (N := 100) (by decide) (by decide) (by decide) hh (Nat.le_of_ble_eq_true rfl) (Nat.le_of_ble_eq_true rfl) (fun h47 H hh hm hs => ?_)
  refine r_putR C hm hs flX16_94 (Or.inr ⟨ffX16_94, hin rfl⟩) dX16_init_200 hh (fun h48 H locs _ hh hm hs => ?_)
  refine r_aload_n C.1 C.2.1 dX16_init_203 rfl (lv_at hl 0 rfl) ?_
  refine lv_bipush (v := 100) C.1 C.2.1 dX16_init_204 (by decide) ?_
  refine r_newaG C hm hs (kd := 20) (w := 4) (by decide) aw20 dX16_init_206 (N := 100) (by decide) (by decide) (by decide) hh (Nat.le_of_ble_eq_true rfl) (Nat.le_of_ble_eq_true rfl) (fun h49 H hh hm hs => ?_)
  refine r_putR C hm hs flX16_97 (Or.inr ⟨ffX16_97, hin rfl⟩) dX16_init_208 hh (fun h50 H locs _ hh hm hs => ?_)
  refine r_aload_n C.1 C.2.1 dX16_init_211 rfl (lv_at hl 0 rfl) ?_
  refine lv_bipush (v := 20) C.1 C.2.1 dX16_init_212 (by decide) ?_
  refine r_newaG C hm hs (kd := 20) (w := 4) (by decide) aw20 dX16_init_214 (N := 20) (by decide) (by decide) (by decide) hh (Nat.le_of_ble_eq_true rfl) (Nat.le_of_ble_eq_true rfl) (fun h51 H hh hm hs => ?_)
  refine r_putR C hm hs flX16_100 (Or.inr ⟨ffX16_100, hin rfl⟩) dX16_init_216 hh (fun h52 H locs _ hh hm hs => ?_)
  refine r_aload_n C.1 C.2.1 dX16_init_219 rfl (lv_at hl 0 rfl) ?_
  refine lv_bipush (v := 20) C.1 C.2.1 dX16_init_220 (by decide) ?_
  refine r_newaG C hm hs (kd := 20) (w := 4) (by decide) aw20 dX16_init_222 (N := 20) (by decide) (by decide) (by decide) hh (Nat.le_of_ble_eq_true rfl) (Nat.le_of_ble_eq_true rfl) (fun h53 H hh hm hs => ?_)
  refine r_putR C hm hs flX16_103 (Or.inr ⟨ffX16_103, hin rfl⟩) dX16_init_224 hh (fun h54 H locs _ hh hm hs => ?_)
  refine r_aload_n C.1 C.2.1 dX16_init_227 rfl (lv_at hl 0 rfl) ?_
  refine lv_bipush (v := 100) C.1 C.2.1 dX16_init_228 (by decide) ?_
  refine r_newaG C hm hs (kd := 20) (w := 4) (by decide) aw20 dX16_init_230 (N := 100) (by decide) (by decide) (by decide) hh (Nat.le_of_ble_eq_true rfl) (Nat.le_of_ble_eq_true rfl) (fun h55 H hh hm hs => ?_)
  refine r_putR C hm hs flX16_106 (Or.inr ⟨ffX16_106, hin rfl⟩) dX16_init_232 hh (fun h56 H locs _ hh hm hs => ?_)
  refine W.widen (k := 24) (n := 3984) (by omega) (by omega) ?_
  exact r_vretW hQ C hr hm hs hh dX16_init_235
def mX16_thrown (h : MHp) (a0 : Nat) : Option (Int32) := (gI 17 0 h (some a0)).bind fun x1 => some x1
set_option maxRecDepth 100000 in
set_option maxHeartbeats 4000000 in
theorem c_X16_thrown (l : Launch) (G : Env0) (h : MHp) (a0 : Nat) (res : Int32) (hh : mX16_thrown h a0 = some res) : MG l yX16_thrown cX16_thrown 1 (some .int) 0 0 0 0 G h [.ref a0] (some (.int res)) (h) := by
  refine MG_of (own := RX16) (plainFor_of_name (by decide)) rfl (Nat.le_of_ble_eq_true rfl) ?_
  intro p e s m args below meth c Q ls hQ C X hin hm hs hl hr
  have hl : lv_has ls 1 [(0, va_rf (some a0))] := hl
  unfold mX16_thrown at hh
  refine r_aload_n C.1 C.2.1 dX16_thrown_0 rfl (lv_at hl 0 rfl) ?_
  refine r_getI C hm flX16_109 dX16_thrown_1 hh (fun x1 _ hh => ?_)
  exact r_iretP hQ C hr hm hs hh dX16_thrown_4
def mX16_refused (h : MHp) (a0 : Nat) (a1 : Int32) : Option (Int32 × MHp) := (pI 17 1 h (some a0) a1).bind fun h1 => (pI 17 2 h1 (some a0) (-1)).bind fun h2 => some ((-1), h2)
set_option maxRecDepth 100000 in
set_option maxHeartbeats 4000000 in
theorem c_X16_refused (l : Launch) (G : Env0) (h : MHp) (a0 : Nat) (a1 : Int32) (res : Int32 × MHp) (hh : mX16_refused h a0 a1 = some res) : MG l yX16_refused cX16_refused 2 (some .int) 0 0 0 0 G h [.ref a0, .int a1] (some (.int res.1)) (res.2) := by
  refine MG_of (own := RX16) (plainFor_of_name (by decide)) rfl (Nat.le_of_ble_eq_true rfl) ?_
  intro p e s m args below meth c Q ls hQ C X hin hm hs hl hr
  have hl : lv_has ls 2 [(0, va_rf (some a0)), (1, .int a1)] := hl
  unfold mX16_refused at hh
  refine r_aload_n C.1 C.2.1 dX16_refused_0 rfl (lv_at hl 0 rfl) ?_
  refine lv_iload_n C.1 C.2.1 dX16_refused_1 rfl (lv_at hl 1 rfl) ?_
  refine r_putI C hm hs flX16_112 (Or.inl fm_17_1) dX16_refused_2 hh (fun h1 H locs _ hh hm hs => ?_)
  refine r_aload_n C.1 C.2.1 dX16_refused_5 rfl (lv_at hl 0 rfl) ?_
  refine lv_iconst (v := (-1)) C.1 C.2.1 dX16_refused_6 (by decide) ?_
  refine r_putI C hm hs flX16_9 (Or.inl fm_17_2) dX16_refused_7 hh (fun h2 H locs _ hh hm hs => ?_)
  refine lv_iconst (v := (-1)) C.1 C.2.1 dX16_refused_10 (by decide) ?_
  exact r_iretW hQ C hr hm hs hh dX16_refused_11
def mX16_denied (h : MHp) (a0 : Nat) (a1 : Int32) : Option (Int32 × MHp) := (pI 17 1 h (some a0) a1).bind fun h1 => (pI 17 2 h1 (some a0) (-1)).bind fun h2 => some (0, h2)
set_option maxRecDepth 100000 in
set_option maxHeartbeats 4000000 in
theorem c_X16_denied (l : Launch) (G : Env0) (h : MHp) (a0 : Nat) (a1 : Int32) (res : Int32 × MHp) (hh : mX16_denied h a0 a1 = some res) : MG l yX16_denied cX16_denied 2 (some .boolean) 0 0 0 0 G h [.ref a0, .int a1] (some (.int res.1)) (res.2) := by
  refine MG_of (own := RX16) (plainFor_of_name (by decide)) rfl (Nat.le_of_ble_eq_true rfl) ?_
  intro p e s m args below meth c Q ls hQ C X hin hm hs hl hr
  have hl : lv_has ls 2 [(0, va_rf (some a0)), (1, .int a1)] := hl
  unfold mX16_denied at hh
  refine r_aload_n C.1 C.2.1 dX16_denied_0 rfl (lv_at hl 0 rfl) ?_
  refine lv_iload_n C.1 C.2.1 dX16_denied_1 rfl (lv_at hl 1 rfl) ?_
  refine r_putI C hm hs flX16_112 (Or.inl fm_17_1) dX16_denied_2 hh (fun h1 H locs _ hh hm hs => ?_)
  refine r_aload_n C.1 C.2.1 dX16_denied_5 rfl (lv_at hl 0 rfl) ?_
  refine lv_iconst (v := (-1)) C.1 C.2.1 dX16_denied_6 (by decide) ?_
  refine r_putI C hm hs flX16_9 (Or.inl fm_17_2) dX16_denied_7 hh (fun h2 H locs _ hh hm hs => ?_)
  refine lv_iconst (v := 0) C.1 C.2.1 dX16_denied_10 (by decide) ?_
  exact r_bretW hQ C hr hm hs (by decide) hh dX16_denied_11
def mX16_lost (h : MHp) (a0 : Nat) (a1 : Int32) : Option (Int64 × MHp) := (pI 17 1 h (some a0) a1).bind fun h1 => (pI 17 2 h1 (some a0) (-1)).bind fun h2 => some ((-9223372036854775808), h2)
set_option maxRecDepth 100000 in
set_option maxHeartbeats 4000000 in
theorem c_X16_lost (l : Launch) (G : Env0) (h : MHp) (a0 : Nat) (a1 : Int32) (res : Int64 × MHp) (hh : mX16_lost h a0 a1 = some res) : MG l yX16_lost cX16_lost 2 (some .long) 0 0 0 0 G h [.ref a0, .int a1] (some (.long res.1)) (res.2) := by
  refine MG_of (own := RX16) (plainFor_of_name (by decide)) rfl (Nat.le_of_ble_eq_true rfl) ?_
  intro p e s m args below meth c Q ls hQ C X hin hm hs hl hr
  have hl : lv_has ls 2 [(0, va_rf (some a0)), (1, .int a1)] := hl
  unfold mX16_lost at hh
  refine r_aload_n C.1 C.2.1 dX16_lost_0 rfl (lv_at hl 0 rfl) ?_
  refine lv_iload_n C.1 C.2.1 dX16_lost_1 rfl (lv_at hl 1 rfl) ?_
  refine r_putI C hm hs flX16_112 (Or.inl fm_17_1) dX16_lost_2 hh (fun h1 H locs _ hh hm hs => ?_)
  refine r_aload_n C.1 C.2.1 dX16_lost_5 rfl (lv_at hl 0 rfl) ?_
  refine lv_iconst (v := (-1)) C.1 C.2.1 dX16_lost_6 (by decide) ?_
  refine r_putI C hm hs flX16_9 (Or.inl fm_17_2) dX16_lost_7 hh (fun h2 H locs _ hh hm hs => ?_)
  refine lv_ldc2 (v := (-9223372036854775808)) C.1 C.2.1 C.2.2.2.1 (C.2.2.2.2.1 _ (in_tbl q_1855 rfl)) dX16_lost_10 ?_
  exact r_lretW hQ C hr hm hs hh dX16_lost_13
def mX16_done (h : MHp) (a0 : Nat) (a1 : Int32) : Option (Int32 × MHp) := (pI 17 1 h (some a0) 0).bind fun h1 => (pI 17 2 h1 (some a0) (-1)).bind fun h2 => some (a1, h2)
set_option maxRecDepth 100000 in
set_option maxHeartbeats 4000000 in
theorem c_X16_done (l : Launch) (G : Env0) (h : MHp) (a0 : Nat) (a1 : Int32) (res : Int32 × MHp) (hh : mX16_done h a0 a1 = some res) : MG l yX16_done cX16_done 2 (some .int) 0 0 0 0 G h [.ref a0, .int a1] (some (.int res.1)) (res.2) := by
  refine MG_of (own := RX16) (plainFor_of_name (by decide)) rfl (Nat.le_of_ble_eq_true rfl) ?_
  intro p e s m args below meth c Q ls hQ C X hin hm hs hl hr
  have hl : lv_has ls 2 [(0, va_rf (some a0)), (1, .int a1)] := hl
  unfold mX16_done at hh
  refine r_aload_n C.1 C.2.1 dX16_done_0 rfl (lv_at hl 0 rfl) ?_
  refine lv_iconst (v := 0) C.1 C.2.1 dX16_done_1 (by decide) ?_
  refine r_putI C hm hs flX16_112 (Or.inl fm_17_1) dX16_done_2 hh (fun h1 H locs _ hh hm hs => ?_)
  refine r_aload_n C.1 C.2.1 dX16_done_5 rfl (lv_at hl 0 rfl) ?_
  refine lv_iconst (v := (-1)) C.1 C.2.1 dX16_done_6 (by decide) ?_
  refine r_putI C hm hs flX16_9 (Or.inl fm_17_2) dX16_done_7 hh (fun h2 H locs _ hh hm hs => ?_)
  refine lv_iload_n C.1 C.2.1 dX16_done_10 rfl (lv_at hl 1 rfl) ?_
  exact r_iretW hQ C hr hm hs hh dX16_done_11
def mX16_told (h : MHp) (a0 : Nat) (a1 : Int64) : Option (Int64 × MHp) := (pI 17 1 h (some a0) 0).bind fun h1 => (pI 17 2 h1 (some a0) (-1)).bind fun h2 => some (a1, h2)
set_option maxRecDepth 100000 in
set_option maxHeartbeats 4000000 in
theorem c_X16_told (l : Launch) (G : Env0) (h : MHp) (a0 : Nat) (a1 : Int64) (res : Int64 × MHp) (hh : mX16_told h a0 a1 = some res) : MG l yX16_told cX16_told 3 (some .long) 0 0 0 0 G h [.ref a0, .long a1] (some (.long res.1)) (res.2) := by
  refine MG_of (own := RX16) (plainFor_of_name (by decide)) rfl (Nat.le_of_ble_eq_true rfl) ?_
  intro p e s m args below meth c Q ls hQ C X hin hm hs hl hr
  have hl : lv_has ls 3 [(0, va_rf (some a0)), (1, .long a1)] := hl
  unfold mX16_told at hh
  refine r_aload_n C.1 C.2.1 dX16_told_0 rfl (lv_at hl 0 rfl) ?_
  refine lv_iconst (v := 0) C.1 C.2.1 dX16_told_1 (by decide) ?_
  refine r_putI C hm hs flX16_112 (Or.inl fm_17_1) dX16_told_2 hh (fun h1 H locs _ hh hm hs => ?_)
  refine r_aload_n C.1 C.2.1 dX16_told_5 rfl (lv_at hl 0 rfl) ?_
  refine lv_iconst (v := (-1)) C.1 C.2.1 dX16_told_6 (by decide) ?_
  refine r_putI C hm hs flX16_9 (Or.inl fm_17_2) dX16_told_7 hh (fun h2 H locs _ hh hm hs => ?_)
  refine lv_lload_n C.1 C.2.1 dX16_told_10 rfl (lv_at hl 1 rfl) ?_
  exact r_lretW hQ C hr hm hs hh dX16_told_11
def mX16_granted (h : MHp) (a0 : Nat) : Option (Int32 × MHp) := (pI 17 1 h (some a0) 0).bind fun h1 => (pI 17 2 h1 (some a0) (-1)).bind fun h2 => some (1, h2)
set_option maxRecDepth 100000 in
set_option maxHeartbeats 4000000 in
theorem c_X16_granted (l : Launch) (G : Env0) (h : MHp) (a0 : Nat) (res : Int32 × MHp) (hh : mX16_granted h a0 = some res) : MG l yX16_granted cX16_granted 1 (some .boolean) 0 0 0 0 G h [.ref a0] (some (.int res.1)) (res.2) := by
  refine MG_of (own := RX16) (plainFor_of_name (by decide)) rfl (Nat.le_of_ble_eq_true rfl) ?_
  intro p e s m args below meth c Q ls hQ C X hin hm hs hl hr
  have hl : lv_has ls 1 [(0, va_rf (some a0))] := hl
  unfold mX16_granted at hh
  refine r_aload_n C.1 C.2.1 dX16_granted_0 rfl (lv_at hl 0 rfl) ?_
  refine lv_iconst (v := 0) C.1 C.2.1 dX16_granted_1 (by decide) ?_
  refine r_putI C hm hs flX16_112 (Or.inl fm_17_1) dX16_granted_2 hh (fun h1 H locs _ hh hm hs => ?_)
  refine r_aload_n C.1 C.2.1 dX16_granted_5 rfl (lv_at hl 0 rfl) ?_
  refine lv_iconst (v := (-1)) C.1 C.2.1 dX16_granted_6 (by decide) ?_
  refine r_putI C hm hs flX16_9 (Or.inl fm_17_2) dX16_granted_7 hh (fun h2 H locs _ hh hm hs => ?_)
  refine lv_iconst (v := 1) C.1 C.2.1 dX16_granted_10 (by decide) ?_
  exact r_bretW hQ C hr hm hs (by decide) hh dX16_granted_11
def mX16_in (h : MHp) (a0 : Int32) (a1 : Int32) (a2 : Int32) : Option (Int32) := (if a0 < a1 then some 0 else (if a2 < a0 then some 0 else some 1))
set_option maxRecDepth 100000 in
set_option maxHeartbeats 4000000 in
theorem c_X16_in (l : Launch) (G : Env0) (h : MHp) (a0 : Int32) (a1 : Int32) (a2 : Int32) (res : Int32) (hh : mX16_in h a0 a1 a2 = some res) : MG l yX16_in cX16_in 3 (some .boolean) 0 0 0 0 G h [.int a0, .int a1, .int a2] (some (.int res)) (h) := by
  refine MG_of (own := RX16) (plainFor_of_name (by decide)) rfl (Nat.le_of_ble_eq_true rfl) ?_
  intro p e s m args below meth c Q ls hQ C X hin hm hs hl hr
  have hl : lv_has ls 3 [(0, .int a0), (1, .int a1), (2, .int a2)] := hl
  unfold mX16_in at hh
  refine lv_iload_n C.1 C.2.1 dX16_in_0 rfl (lv_at hl 0 rfl) ?_
  refine lv_iload_n C.1 C.2.1 dX16_in_1 rfl (lv_at hl 1 rfl) ?_
  refine lv_icmp_lt (tgt := 14) C.1 C.2.1 dX16_in_2 (by decide) (fun c2 => ?_) (fun c2 => ?_)
  · rw [if_pos c2] at hh
    refine lv_iconst (v := 0) C.1 C.2.1 dX16_in_14 (by decide) ?_
    exact r_bretP hQ C hr hm hs (by decide) hh dX16_in_15
  · rw [if_neg c2] at hh
    refine lv_iload_n C.1 C.2.1 dX16_in_5 rfl (lv_at hl 0 rfl) ?_
    refine lv_iload_n C.1 C.2.1 dX16_in_6 rfl (lv_at hl 2 rfl) ?_
    refine lv_icmp_gt (tgt := 14) C.1 C.2.1 dX16_in_7 (by decide) (fun c1 => ?_) (fun c1 => ?_)
    · rw [if_pos c1] at hh
      refine lv_iconst (v := 0) C.1 C.2.1 dX16_in_14 (by decide) ?_
      exact r_bretP hQ C hr hm hs (by decide) hh dX16_in_15
    · rw [if_neg c1] at hh
      refine lv_iconst (v := 1) C.1 C.2.1 dX16_in_10 (by decide) ?_
      refine lv_goto (tgt := 15) C.1 C.2.1 dX16_in_11 (by decide) ?_
      exact r_bretP hQ C hr hm hs (by decide) hh dX16_in_15
def mX16_stop (h : MHp) (a0 : Nat) (a1 : Int32) : Option (Option Nat × MHp) := (gR 17 8 h (some a0)).bind fun x1 => (pI 14 6 h x1 a1).bind fun h2 => (gR 17 8 h2 (some a0)).bind fun x3 => (gI 17 14 h2 (some a0)).bind fun x4 => (pI 14 7 h2 x3 x4).bind fun h5 => (gR 17 8 h5 (some a0)).bind fun x6 => some (x6, h5)
set_option maxRecDepth 100000 in
set_option maxHeartbeats 4000000 in
theorem c_X16_stop (l : Launch) (G : Env0) (h : MHp) (a0 : Nat) (a1 : Int32) (res : Option Nat × MHp) (hh : mX16_stop h a0 a1 = some res) : MG l yX16_stop cX16_stop 2 (some (.object "CountOfficeModel$Stop")) 0 0 0 0 G h [.ref a0, .int a1] (some (va_rf res.1)) (res.2) := by
  refine MG_of (own := RX16) (plainFor_of_name (by decide)) rfl (Nat.le_of_ble_eq_true rfl) ?_
  intro p e s m args below meth c Q ls hQ C X hin hm hs hl hr
  have hl : lv_has ls 2 [(0, va_rf (some a0)), (1, .int a1)] := hl
  unfold mX16_stop at hh
  refine r_aload_n C.1 C.2.1 dX16_stop_0 rfl (lv_at hl 0 rfl) ?_
  refine r_getR C hm flX16_22 dX16_stop_1 hh (fun x1 _ hh => ?_)
  refine lv_iload_n C.1 C.2.1 dX16_stop_4 rfl (lv_at hl 1 rfl) ?_
  refine r_putI C hm hs flX16_119 (Or.inl fm_14_6) dX16_stop_5 hh (fun h2 H locs _ hh hm hs => ?_)
  refine r_aload_n C.1 C.2.1 dX16_stop_8 rfl (lv_at hl 0 rfl) ?_
  refine r_getR C hm flX16_22 dX16_stop_9 hh (fun x3 _ hh => ?_)
  refine r_aload_n C.1 C.2.1 dX16_stop_12 rfl (lv_at hl 0 rfl) ?_
  refine r_getI C hm flX16_122 dX16_stop_13 hh (fun x4 _ hh => ?_)
  refine r_putI C hm hs flX16_125 (Or.inl fm_14_7) dX16_stop_16 hh (fun h5 H locs _ hh hm hs => ?_)
  refine r_aload_n C.1 C.2.1 dX16_stop_19 rfl (lv_at hl 0 rfl) ?_
  refine r_getR C hm flX16_22 dX16_stop_20 hh (fun x6 _ hh => ?_)
  exact r_aretW hQ C hr (Or.inl ⟨_, rfl⟩) hm hs hh dX16_stop_23
def mX16_byteAt (h : MHp) (a0 : Nat) (a1 : Int32) : Option (Int32) := (gI 17 11 h (some a0)).bind fun x1 => (if x1 ≤ a1 then some (-1) else (gR 17 9 h (some a0)).bind fun x2 => (gAI 22 h x2 a1).bind fun x3 => some (x3 &&& 255))
set_option maxRecDepth 100000 in
set_option maxHeartbeats 4000000 in
theorem c_X16_byteAt (l : Launch) (G : Env0) (h : MHp) (a0 : Nat) (a1 : Int32) (res : Int32) (hh : mX16_byteAt h a0 a1 = some res) : MG l yX16_byteAt cX16_byteAt 2 (some .int) 0 0 0 0 G h [.ref a0, .int a1] (some (.int res)) (h) := by
  refine MG_of (own := RX16) (plainFor_of_name (by decide)) rfl (Nat.le_of_ble_eq_true rfl) ?_
  intro p e s m args below meth c Q ls hQ C X hin hm hs hl hr
  have hl : lv_has ls 2 [(0, va_rf (some a0)), (1, .int a1)] := hl
  unfold mX16_byteAt at hh
  refine lv_iload_n C.1 C.2.1 dX16_byteAt_0 rfl (lv_at hl 1 rfl) ?_
  refine r_aload_n C.1 C.2.1 dX16_byteAt_1 rfl (lv_at hl 0 rfl) ?_
  refine r_getI C hm flX16_126 dX16_byteAt_2 hh (fun x1 _ hh => ?_)
  refine lv_icmp_ge (tgt := 21) C.1 C.2.1 dX16_byteAt_5 (by decide) (fun c4 => ?_) (fun c4 => ?_)
  · rw [if_pos c4] at hh
    refine lv_iconst (v := (-1)) C.1 C.2.1 dX16_byteAt_21 (by decide) ?_
    exact r_iretP hQ C hr hm hs hh dX16_byteAt_22
  · rw [if_neg c4] at hh
    refine r_aload_n C.1 C.2.1 dX16_byteAt_8 rfl (lv_at hl 0 rfl) ?_
    refine r_getR C hm flX16_26 dX16_byteAt_9 hh (fun x2 _ hh => ?_)
    refine lv_iload_n C.1 C.2.1 dX16_byteAt_12 rfl (lv_at hl 1 rfl) ?_
    refine r_bald C hm dX16_byteAt_13 hh (fun x3 _ hh => ?_)
    refine lv_sipush (v := 255) C.1 C.2.1 dX16_byteAt_14 (by decide) ?_
    refine lv_iand C.1 C.2.1 dX16_byteAt_17 ?_
    refine lv_goto (tgt := 22) C.1 C.2.1 dX16_byteAt_18 (by decide) ?_
    exact r_iretP hQ C hr hm hs hh dX16_byteAt_22
def mX16_isLetter (h : MHp) (a0 : Int32) : Option (Int32) := (if a0 < 97 then some 0 else (if 122 < a0 then some 0 else some 1))
set_option maxRecDepth 100000 in
set_option maxHeartbeats 4000000 in
theorem c_X16_isLetter (l : Launch) (G : Env0) (h : MHp) (a0 : Int32) (res : Int32) (hh : mX16_isLetter h a0 = some res) : MG l yX16_isLetter cX16_isLetter 1 (some .boolean) 0 0 0 0 G h [.int a0] (some (.int res)) (h) := by
  refine MG_of (own := RX16) (plainFor_of_name (by decide)) rfl (Nat.le_of_ble_eq_true rfl) ?_
  intro p e s m args below meth c Q ls hQ C X hin hm hs hl hr
  have hl : lv_has ls 1 [(0, .int a0)] := hl
  unfold mX16_isLetter at hh
  refine lv_iload_n C.1 C.2.1 dX16_isLetter_0 rfl (lv_at hl 0 rfl) ?_
  refine lv_bipush (v := 97) C.1 C.2.1 dX16_isLetter_1 (by decide) ?_
  refine lv_icmp_lt (tgt := 16) C.1 C.2.1 dX16_isLetter_3 (by decide) (fun c2 => ?_) (fun c2 => ?_)
  · rw [if_pos c2] at hh
    refine lv_iconst (v := 0) C.1 C.2.1 dX16_isLetter_16 (by decide) ?_
    exact r_bretP hQ C hr hm hs (by decide) hh dX16_isLetter_17
  · rw [if_neg c2] at hh
    refine lv_iload_n C.1 C.2.1 dX16_isLetter_6 rfl (lv_at hl 0 rfl) ?_
    refine lv_bipush (v := 122) C.1 C.2.1 dX16_isLetter_7 (by decide) ?_
    refine lv_icmp_gt (tgt := 16) C.1 C.2.1 dX16_isLetter_9 (by decide) (fun c1 => ?_) (fun c1 => ?_)
    · rw [if_pos c1] at hh
      refine lv_iconst (v := 0) C.1 C.2.1 dX16_isLetter_16 (by decide) ?_
      exact r_bretP hQ C hr hm hs (by decide) hh dX16_isLetter_17
    · rw [if_neg c1] at hh
      refine lv_iconst (v := 1) C.1 C.2.1 dX16_isLetter_12 (by decide) ?_
      refine lv_goto (tgt := 17) C.1 C.2.1 dX16_isLetter_13 (by decide) ?_
      exact r_bretP hQ C hr hm hs (by decide) hh dX16_isLetter_17
def mX16_isDigit (h : MHp) (a0 : Int32) : Option (Int32) := (if a0 < 48 then some 0 else (if 57 < a0 then some 0 else some 1))
set_option maxRecDepth 100000 in
set_option maxHeartbeats 4000000 in
theorem c_X16_isDigit (l : Launch) (G : Env0) (h : MHp) (a0 : Int32) (res : Int32) (hh : mX16_isDigit h a0 = some res) : MG l yX16_isDigit cX16_isDigit 1 (some .boolean) 0 0 0 0 G h [.int a0] (some (.int res)) (h) := by
  refine MG_of (own := RX16) (plainFor_of_name (by decide)) rfl (Nat.le_of_ble_eq_true rfl) ?_
  intro p e s m args below meth c Q ls hQ C X hin hm hs hl hr
  have hl : lv_has ls 1 [(0, .int a0)] := hl
  unfold mX16_isDigit at hh
  refine lv_iload_n C.1 C.2.1 dX16_isDigit_0 rfl (lv_at hl 0 rfl) ?_
  refine lv_bipush (v := 48) C.1 C.2.1 dX16_isDigit_1 (by decide) ?_
  refine lv_icmp_lt (tgt := 16) C.1 C.2.1 dX16_isDigit_3 (by decide) (fun c2 => ?_) (fun c2 => ?_)
  · rw [if_pos c2] at hh
    refine lv_iconst (v := 0) C.1 C.2.1 dX16_isDigit_16 (by decide) ?_
    exact r_bretP hQ C hr hm hs (by decide) hh dX16_isDigit_17
  · rw [if_neg c2] at hh
    refine lv_iload_n C.1 C.2.1 dX16_isDigit_6 rfl (lv_at hl 0 rfl) ?_
    refine lv_bipush (v := 57) C.1 C.2.1 dX16_isDigit_7 (by decide) ?_
    refine lv_icmp_gt (tgt := 16) C.1 C.2.1 dX16_isDigit_9 (by decide) (fun c1 => ?_) (fun c1 => ?_)
    · rw [if_pos c1] at hh
      refine lv_iconst (v := 0) C.1 C.2.1 dX16_isDigit_16 (by decide) ?_
      exact r_bretP hQ C hr hm hs (by decide) hh dX16_isDigit_17
    · rw [if_neg c1] at hh
      refine lv_iconst (v := 1) C.1 C.2.1 dX16_isDigit_12 (by decide) ?_
      refine lv_goto (tgt := 17) C.1 C.2.1 dX16_isDigit_13 (by decide) ?_
      exact r_bretP hQ C hr hm hs (by decide) hh dX16_isDigit_17
def mX16_next_b127 (k80 : MHp → Nat → Int32 → Option (MHp)) (h : MHp) (a0 : Nat) (v2 : Int32) : Option (MHp) := (gI 17 12 h (some a0)).bind fun x1 => (pI 17 12 h (some a0) (x1 + 1)).bind fun h2 => k80 h2 a0 (v2 + 1)
def mX16_next_l80 : Nat → MHp → Nat → Int32 → Option (MHp)
  | 0, _, _, _ => none
  | n + 1, h, a0, v2 => (gI 17 12 h (some a0)).bind fun x3 => (rcv 17 h (some a0)).bind fun b5 => (mX16_byteAt h b5 x3).bind fun r4 => (mX16_isLetter h r4).bind fun r6 => (if r6 = 0 then (if 8 < v2 then some h else (pI 17 13 h (some a0) 2).bind fun h7 => some h7) else (if 8 ≤ v2 then mX16_next_b127 (mX16_next_l80 n) h a0 v2 else (gL 17 17 h (some a0)).bind fun x9 => (gI 17 12 h (some a0)).bind fun x10 => (rcv 17 h (some a0)).bind fun b12 => (mX16_byteAt h b12 x10).bind fun r11 => (pL 17 17 h (some a0) ((32 * x9) + ((r11 - 97) + 1).toInt64)).bind fun h13 => mX16_next_b127 (mX16_next_l80 n) h13 a0 v2))
def mX16_next_b211 (k169 : MHp → Nat → Int32 → Option (MHp)) (h : MHp) (a0 : Nat) (v2 : Int32) : Option (MHp) := (gI 17 12 h (some a0)).bind fun x16 => (pI 17 12 h (some a0) (x16 + 1)).bind fun h17 => k169 h17 a0 (v2 + 1)
def mX16_next_l169 : Nat → MHp → Nat → Int32 → Option (MHp)
  | 0, _, _, _ => none
  | n + 1, h, a0, v2 => (gI 17 12 h (some a0)).bind fun x18 => (rcv 17 h (some a0)).bind fun b20 => (mX16_byteAt h b20 x18).bind fun r19 => (mX16_isDigit h r19).bind fun r21 => (if r21 = 0 then (if 5 ≤ v2 then some h else (pI 17 13 h (some a0) 3).bind fun h22 => some h22) else (if 4 ≤ v2 then mX16_next_b211 (mX16_next_l169 n) h a0 v2 else (gI 17 16 h (some a0)).bind fun x24 => (gI 17 12 h (some a0)).bind fun x25 => (rcv 17 h (some a0)).bind fun b27 => (mX16_byteAt h b27 x25).bind fun r26 => (pI 17 16 h (some a0) (((10 * x24) + r26) - 48)).bind fun h28 => mX16_next_b211 (mX16_next_l169 n) h28 a0 v2))
def mX16_next_b270 (h : MHp) (a0 : Nat) (v1 : Int32) : Option (MHp) := (pI 17 13 h (some a0) 4).bind fun h31 => (pI 17 15 h31 (some a0) v1).bind fun h32 => (gI 17 12 h32 (some a0)).bind fun x33 => (pI 17 12 h32 (some a0) (x33 + 1)).bind fun h34 => some h34
def mX16_next_l0 : Nat → MHp → Nat → Option (MHp)
  | 0, _, _ => none
  | n + 1, h, a0 => (gI 17 12 h (some a0)).bind fun x35 => (rcv 17 h (some a0)).bind fun b37 => (mX16_byteAt h b37 x35).bind fun r36 => (if r36 = 32 then (gI 17 12 h (some a0)).bind fun x58 => (pI 17 12 h (some a0) (x58 + 1)).bind fun h59 => mX16_next_l0 n h59 a0 else (gI 17 12 h (some a0)).bind fun x38 => (pI 17 14 h (some a0) x38).bind fun h39 => (pI 17 13 h39 (some a0) 0).bind fun h40 => (pI 17 15 h40 (some a0) 0).bind fun h41 => (gI 17 12 h41 (some a0)).bind fun x42 => (rcv 17 h41 (some a0)).bind fun b44 => (mX16_byteAt h41 b44 x42).bind fun r43 => (if r43 = (-1) then (pI 17 13 h41 (some a0) 1).bind fun h56 => some h56 else (mX16_isLetter h41 r43).bind fun r45 => (if r45 = 0 then (mX16_isDigit h41 r43).bind fun r46 => (if r46 = 0 then (if r43 = 59 then mX16_next_b270 h41 a0 r43 else (if r43 = 44 then mX16_next_b270 h41 a0 r43 else (if r43 = 61 then mX16_next_b270 h41 a0 r43 else (if r43 = 60 then mX16_next_b270 h41 a0 r43 else (if r43 = 62 then mX16_next_b270 h41 a0 r43 else some h41))))) else (pI 17 16 h41 (some a0) 0).bind fun h52 => mX16_next_l169 FUEL h52 a0 0) else (pL 17 17 h41 (some a0) 0).bind fun h54 => mX16_next_l80 FUEL h54 a0 0)))
def mX16_next (h : MHp) (a0 : Nat) : Option (MHp) := mX16_next_l0 FUEL h a0
set_option maxRecDepth 100000 in
set_option maxHeartbeats 4000000 in
theorem c_X16_next (l : Launch) (G : Env0) (h : MHp) (a0 : Nat) (res : MHp) (hh : mX16_next h a0 = some res) : MG l yX16_next cX16_next 3 none 1 21 0 0 G h [.ref a0] (none) (res) := by
  refine MG_of (own := RX16) (plainFor_of_name (by decide)) rfl (Nat.le_of_ble_eq_true rfl) ?_
  intro p e s m args below meth c Q ls hQ C X hin hm hs hl hr
  have hl : lv_has ls 3 [(0, va_rf (some a0))] := hl
  have B127 : ∀ (k80 : MHp → Nat → Int32 → Option (MHp)), (∀ (h : MHp) (H : Heap) (locs : List Loc) (ls : Array Slot) (a0 : Nat) (v2 : Int32) , mHp (gD G) (gC G) (gB G) h H → va_S (fun q => gB G ≤ q) s.heap H locs → lv_has ls 3 [(0, va_rf (some a0)), (2, .int v2)] → k80 h a0 v2 = some res → W p l e ({ frames := 1, cells := 0, slots := 0, locals := 21 }) s m args below meth c H locs 0 0 Q (F0 m 80 ls [])) → ∀ (h : MHp) (H : Heap) (locs : List Loc) (ls : Array Slot) (a0 : Nat) (v2 : Int32) , mHp (gD G) (gC G) (gB G) h H → va_S (fun q => gB G ≤ q) s.heap H locs → lv_has ls 3 [(0, va_rf (some a0)), (2, .int v2)] → mX16_next_b127 k80 h a0 v2 = some res → W p l e ({ frames := 1, cells := 0, slots := 0, locals := 21 }) s m args below meth c H locs 0 0 Q (F0 m 127 ls []) := by
    intro k80 hk80 h H locs ls a0 v2 hm hs hl hh
    unfold mX16_next_b127 at hh
    refine lv_iinc (v := (v2 + 1)) (lv' := [(2, .int (v2 + 1)), (0, va_rf (some a0))]) C.1 C.2.1 dX16_next_127 hl (k := 1) rfl rfl (by decide) rfl (fun ls hl => ?_)
    refine r_aload_n C.1 C.2.1 dX16_next_130 rfl (lv_at hl 1 rfl) ?_
    refine lv_dup C.1 C.2.1 dX16_next_131 (va_cat _) ?_
    refine r_getI C hm flX16_141 dX16_next_132 hh (fun x1 _ hh => ?_)
    refine lv_iconst (v := 1) C.1 C.2.1 dX16_next_135 (by decide) ?_
    refine lv_iadd C.1 C.2.1 dX16_next_136 ?_
    refine r_putI C hm hs flX16_141 (Or.inl fm_17_12) dX16_next_137 hh (fun h2 H locs _ hh hm hs => ?_)
    refine lv_goto (tgt := 80) C.1 C.2.1 dX16_next_140 (by decide) ?_
    exact hk80 _ _ _ _ _ _  hm hs (lv_sub hl [1, 0] rfl) hh
  have B80 : ∀ n : Nat, ∀ (h : MHp) (H : Heap) (locs : List Loc) (ls : Array Slot) (a0 : Nat) (v2 : Int32) , mHp (gD G) (gC G) (gB G) h H → va_S (fun q => gB G ≤ q) s.heap H locs → lv_has ls 3 [(0, va_rf (some a0)), (2, .int v2)] → mX16_next_l80 n h a0 v2 = some res → W p l e ({ frames := 1, cells := 0, slots := 0, locals := 21 }) s m args below meth c H locs 0 0 Q (F0 m 80 ls []) := by
    intro n
    induction n with
    | zero => intro h H locs ls a0 v2 hm hs hl hh; cases hh
    | succ n ih =>
      intro h H locs ls a0 v2 hm hs hl hh
      unfold mX16_next_l80 at hh
      refine r_aload_n C.1 C.2.1 dX16_next_80 rfl (lv_at hl 0 rfl) ?_
      refine r_aload_n C.1 C.2.1 dX16_next_81 rfl (lv_at hl 0 rfl) ?_
      refine r_getI C hm flX16_141 dX16_next_82 hh (fun x3 _ hh => ?_)
      refine r_cV C X hm hs mlX16_144 mvX16_144 hh (vv := fun r => some (.int r)) (hp := fun r => h) (fun b r hg => c_X16_byteAt l G h b _ r hg) rfl rfl (Nat.le_of_ble_eq_true rfl) (Nat.le_of_ble_eq_true rfl) (Nat.le_of_ble_eq_true rfl) hl.1 dX16_next_85 (fun b5 r4 H locs hgr4 hh hm hs => ?_)
      refine W.eq (g2 := F0 m 88 ls [.int r4]) rfl ?_
      refine r_cS C X hm hs mlX16_154 msX16_154 hh (vv := fun r => some (.int r)) (hp := fun r => h) (fun r hg => c_X16_isLetter l G h _ r hg) rfl rfl (Nat.le_of_ble_eq_true rfl) (Nat.le_of_ble_eq_true rfl) (Nat.le_of_ble_eq_true rfl) hl.1 dX16_next_88 (fun r6 H locs hgr6 hh hm hs => ?_)
      refine W.eq (g2 := F0 m 91 ls [.int r6]) rfl ?_
      refine lv_if_eq (tgt := 143) C.1 C.2.1 dX16_next_91 (by decide) (fun c15 => ?_) (fun c15 => ?_)
      · rw [if_pos c15] at hh
        refine lv_iload_n C.1 C.2.1 dX16_next_143 rfl (lv_at hl 1 rfl) ?_
        refine lv_bipush (v := 8) C.1 C.2.1 dX16_next_144 (by decide) ?_
        refine lv_icmp_gt (tgt := 290) C.1 C.2.1 dX16_next_146 (by decide) (fun c8 => ?_) (fun c8 => ?_)
        · rw [if_pos c8] at hh
          exact r_vretW hQ C hr hm hs hh dX16_next_290
        · rw [if_neg c8] at hh
          refine r_aload_n C.1 C.2.1 dX16_next_149 rfl (lv_at hl 0 rfl) ?_
          refine lv_iconst (v := 2) C.1 C.2.1 dX16_next_150 (by decide) ?_
          refine r_putI C hm hs flX16_148 (Or.inl fm_17_13) dX16_next_151 hh (fun h7 H locs _ hh hm hs => ?_)
          refine lv_goto (tgt := 290) C.1 C.2.1 dX16_next_154 (by decide) ?_
          exact r_vretW hQ C hr hm hs hh dX16_next_290
      · rw [if_neg c15] at hh
        refine lv_iload_n C.1 C.2.1 dX16_next_94 rfl (lv_at hl 1 rfl) ?_
        refine lv_bipush (v := 8) C.1 C.2.1 dX16_next_95 (by decide) ?_
        refine lv_icmp_ge (tgt := 127) C.1 C.2.1 dX16_next_97 (by decide) (fun c14 => ?_) (fun c14 => ?_)
        · rw [if_pos c14] at hh
          exact B127 _ ih _ _ _ _ _ _  hm hs (lv_sub hl [0, 1] rfl) hh
        · rw [if_neg c14] at hh
          refine r_aload_n C.1 C.2.1 dX16_next_100 rfl (lv_at hl 0 rfl) ?_
          refine lv_ldc2 (v := 32) C.1 C.2.1 C.2.2.2.1 (C.2.2.2.2.1 _ (in_tbl q_1537 rfl)) dX16_next_101 ?_
          refine r_aload_n C.1 C.2.1 dX16_next_104 rfl (lv_at hl 0 rfl) ?_
          refine r_getL C hm flX16_158 dX16_next_105 hh (fun x9 _ hh => ?_)
          refine lv_lmul C.1 C.2.1 dX16_next_108 ?_
          refine r_aload_n C.1 C.2.1 dX16_next_109 rfl (lv_at hl 0 rfl) ?_
          refine r_aload_n C.1 C.2.1 dX16_next_110 rfl (lv_at hl 0 rfl) ?_
          refine r_getI C hm flX16_141 dX16_next_111 hh (fun x10 _ hh => ?_)
          refine r_cV C X hm hs mlX16_144 mvX16_144 hh (vv := fun r => some (.int r)) (hp := fun r => h) (fun b r hg => c_X16_byteAt l G h b _ r hg) rfl rfl (by simp [va_cat, vc_i, vc_l, vc_r]) (Nat.le_of_ble_eq_true rfl) (Nat.le_of_ble_eq_true rfl) hl.1 dX16_next_114 (fun b12 r11 H locs hgr11 hh hm hs => ?_)
          refine W.eq (g2 := F0 m 117 ls [.int r11, .long (32 * x9), va_rf (some a0)]) rfl ?_
          refine lv_bipush (v := 97) C.1 C.2.1 dX16_next_117 (by decide) ?_
          refine lv_isub C.1 C.2.1 dX16_next_119 ?_
          refine lv_iconst (v := 1) C.1 C.2.1 dX16_next_120 (by decide) ?_
          refine lv_iadd C.1 C.2.1 dX16_next_121 ?_
          refine lv_i2l (v := ((r11 - 97) + 1).toInt64) C.1 C.2.1 dX16_next_122 rfl ?_
          refine lv_ladd C.1 C.2.1 dX16_next_123 ?_
          refine r_putL C hm hs flX16_158 (Or.inl fm_17_17) dX16_next_124 hh (fun h13 H locs _ hh hm hs => ?_)
          exact B127 _ ih _ _ _ _ _ _  hm hs (lv_sub hl [0, 1] rfl) hh
  have B211 : ∀ (k169 : MHp → Nat → Int32 → Option (MHp)), (∀ (h : MHp) (H : Heap) (locs : List Loc) (ls : Array Slot) (a0 : Nat) (v2 : Int32) , mHp (gD G) (gC G) (gB G) h H → va_S (fun q => gB G ≤ q) s.heap H locs → lv_has ls 3 [(0, va_rf (some a0)), (2, .int v2)] → k169 h a0 v2 = some res → W p l e ({ frames := 1, cells := 0, slots := 0, locals := 21 }) s m args below meth c H locs 0 0 Q (F0 m 169 ls [])) → ∀ (h : MHp) (H : Heap) (locs : List Loc) (ls : Array Slot) (a0 : Nat) (v2 : Int32) , mHp (gD G) (gC G) (gB G) h H → va_S (fun q => gB G ≤ q) s.heap H locs → lv_has ls 3 [(0, va_rf (some a0)), (2, .int v2)] → mX16_next_b211 k169 h a0 v2 = some res → W p l e ({ frames := 1, cells := 0, slots := 0, locals := 21 }) s m args below meth c H locs 0 0 Q (F0 m 211 ls []) := by
    intro k169 hk169 h H locs ls a0 v2 hm hs hl hh
    unfold mX16_next_b211 at hh
    refine lv_iinc (v := (v2 + 1)) (lv' := [(2, .int (v2 + 1)), (0, va_rf (some a0))]) C.1 C.2.1 dX16_next_211 hl (k := 1) rfl rfl (by decide) rfl (fun ls hl => ?_)
    refine r_aload_n C.1 C.2.1 dX16_next_214 rfl (lv_at hl 1 rfl) ?_
    refine lv_dup C.1 C.2.1 dX16_next_215 (va_cat _) ?_
    refine r_getI C hm flX16_141 dX16_next_216 hh (fun x16 _ hh => ?_)
    refine lv_iconst (v := 1) C.1 C.2.1 dX16_next_219 (by decide) ?_
    refine lv_iadd C.1 C.2.1 dX16_next_220 ?_
    refine r_putI C hm hs flX16_141 (Or.inl fm_17_12) dX16_next_221 hh (fun h17 H locs _ hh hm hs => ?_)
    refine lv_goto (tgt := 169) C.1 C.2.1 dX16_next_224 (by decide) ?_
    exact hk169 _ _ _ _ _ _  hm hs (lv_sub hl [1, 0] rfl) hh
  have B169 : ∀ n : Nat, ∀ (h : MHp) (H : Heap) (locs : List Loc) (ls : Array Slot) (a0 : Nat) (v2 : Int32) , mHp (gD G) (gC G) (gB G) h H → va_S (fun q => gB G ≤ q) s.heap H locs → lv_has ls 3 [(0, va_rf (some a0)), (2, .int v2)] → mX16_next_l169 n h a0 v2 = some res → W p l e ({ frames := 1, cells := 0, slots := 0, locals := 21 }) s m args below meth c H locs 0 0 Q (F0 m 169 ls []) := by
    intro n
    induction n with
    | zero => intro h H locs ls a0 v2 hm hs hl hh; cases hh
    | succ n ih =>
      intro h H locs ls a0 v2 hm hs hl hh
      unfold mX16_next_l169 at hh
      refine r_aload_n C.1 C.2.1 dX16_next_169 rfl (lv_at hl 0 rfl) ?_
      refine r_aload_n C.1 C.2.1 dX16_next_170 rfl (lv_at hl 0 rfl) ?_
      refine r_getI C hm flX16_141 dX16_next_171 hh (fun x18 _ hh => ?_)
      refine r_cV C X hm hs mlX16_144 mvX16_144 hh (vv := fun r => some (.int r)) (hp := fun r => h) (fun b r hg => c_X16_byteAt l G h b _ r hg) rfl rfl (Nat.le_of_ble_eq_true rfl) (Nat.le_of_ble_eq_true rfl) (Nat.le_of_ble_eq_true rfl) hl.1 dX16_next_174 (fun b20 r19 H locs hgr19 hh hm hs => ?_)
      refine W.eq (g2 := F0 m 177 ls [.int r19]) rfl ?_
      refine r_cS C X hm hs mlX16_162 msX16_162 hh (vv := fun r => some (.int r)) (hp := fun r => h) (fun r hg => c_X16_isDigit l G h _ r hg) rfl rfl (Nat.le_of_ble_eq_true rfl) (Nat.le_of_ble_eq_true rfl) (Nat.le_of_ble_eq_true rfl) hl.1 dX16_next_177 (fun r21 H locs hgr21 hh hm hs => ?_)
      refine W.eq (g2 := F0 m 180 ls [.int r21]) rfl ?_
      refine lv_if_eq (tgt := 227) C.1 C.2.1 dX16_next_180 (by decide) (fun c30 => ?_) (fun c30 => ?_)
      · rw [if_pos c30] at hh
        refine lv_iload_n C.1 C.2.1 dX16_next_227 rfl (lv_at hl 1 rfl) ?_
        refine lv_iconst (v := 5) C.1 C.2.1 dX16_next_228 (by decide) ?_
        refine lv_icmp_ge (tgt := 290) C.1 C.2.1 dX16_next_229 (by decide) (fun c23 => ?_) (fun c23 => ?_)
        · rw [if_pos c23] at hh
          exact r_vretW hQ C hr hm hs hh dX16_next_290
        · rw [if_neg c23] at hh
          refine r_aload_n C.1 C.2.1 dX16_next_232 rfl (lv_at hl 0 rfl) ?_
          refine lv_iconst (v := 3) C.1 C.2.1 dX16_next_233 (by decide) ?_
          refine r_putI C hm hs flX16_148 (Or.inl fm_17_13) dX16_next_234 hh (fun h22 H locs _ hh hm hs => ?_)
          refine lv_goto (tgt := 290) C.1 C.2.1 dX16_next_237 (by decide) ?_
          exact r_vretW hQ C hr hm hs hh dX16_next_290
      · rw [if_neg c30] at hh
        refine lv_iload_n C.1 C.2.1 dX16_next_183 rfl (lv_at hl 1 rfl) ?_
        refine lv_iconst (v := 4) C.1 C.2.1 dX16_next_184 (by decide) ?_
        refine lv_icmp_ge (tgt := 211) C.1 C.2.1 dX16_next_185 (by decide) (fun c29 => ?_) (fun c29 => ?_)
        · rw [if_pos c29] at hh
          exact B211 _ ih _ _ _ _ _ _  hm hs (lv_sub hl [0, 1] rfl) hh
        · rw [if_neg c29] at hh
          refine r_aload_n C.1 C.2.1 dX16_next_188 rfl (lv_at hl 0 rfl) ?_
          refine lv_bipush (v := 10) C.1 C.2.1 dX16_next_189 (by decide) ?_
          refine r_aload_n C.1 C.2.1 dX16_next_191 rfl (lv_at hl 0 rfl) ?_
          refine r_getI C hm flX16_165 dX16_next_192 hh (fun x24 _ hh => ?_)
          refine lv_imul C.1 C.2.1 dX16_next_195 ?_
          refine r_aload_n C.1 C.2.1 dX16_next_196 rfl (lv_at hl 0 rfl) ?_
          refine r_aload_n C.1 C.2.1 dX16_next_197 rfl (lv_at hl 0 rfl) ?_
          refine r_getI C hm flX16_141 dX16_next_198 hh (fun x25 _ hh => ?_)
          refine r_cV C X hm hs mlX16_144 mvX16_144 hh (vv := fun r => some (.int r)) (hp := fun r => h) (fun b r hg => c_X16_byteAt l G h b _ r hg) rfl rfl (by simp [va_cat, vc_i, vc_l, vc_r]) (Nat.le_of_ble_eq_true rfl) (Nat.le_of_ble_eq_true rfl) hl.1 dX16_next_201 (fun b27 r26 H locs hgr26 hh hm hs => ?_)
          refine W.eq (g2 := F0 m 204 ls [.int r26, .int (10 * x24), va_rf (some a0)]) rfl ?_
          refine lv_iadd C.1 C.2.1 dX16_next_204 ?_
          refine lv_bipush (v := 48) C.1 C.2.1 dX16_next_205 (by decide) ?_
          refine lv_isub C.1 C.2.1 dX16_next_207 ?_
          refine r_putI C hm hs flX16_165 (Or.inl fm_17_16) dX16_next_208 hh (fun h28 H locs _ hh hm hs => ?_)
          exact B211 _ ih _ _ _ _ _ _  hm hs (lv_sub hl [0, 1] rfl) hh
  have B270 : ∀ (h : MHp) (H : Heap) (locs : List Loc) (ls : Array Slot) (a0 : Nat) (v1 : Int32) , mHp (gD G) (gC G) (gB G) h H → va_S (fun q => gB G ≤ q) s.heap H locs → lv_has ls 3 [(0, va_rf (some a0)), (1, .int v1)] → mX16_next_b270 h a0 v1 = some res → W p l e ({ frames := 1, cells := 0, slots := 0, locals := 21 }) s m args below meth c H locs 0 0 Q (F0 m 270 ls []) := by
    intro h H locs ls a0 v1 hm hs hl hh
    unfold mX16_next_b270 at hh
    refine r_aload_n C.1 C.2.1 dX16_next_270 rfl (lv_at hl 0 rfl) ?_
    refine lv_iconst (v := 4) C.1 C.2.1 dX16_next_271 (by decide) ?_
    refine r_putI C hm hs flX16_148 (Or.inl fm_17_13) dX16_next_272 hh (fun h31 H locs _ hh hm hs => ?_)
    refine r_aload_n C.1 C.2.1 dX16_next_275 rfl (lv_at hl 0 rfl) ?_
    refine lv_iload_n C.1 C.2.1 dX16_next_276 rfl (lv_at hl 1 rfl) ?_
    refine r_putI C hm hs flX16_151 (Or.inl fm_17_15) dX16_next_277 hh (fun h32 H locs _ hh hm hs => ?_)
    refine r_aload_n C.1 C.2.1 dX16_next_280 rfl (lv_at hl 0 rfl) ?_
    refine lv_dup C.1 C.2.1 dX16_next_281 (va_cat _) ?_
    refine r_getI C hm flX16_141 dX16_next_282 hh (fun x33 _ hh => ?_)
    refine lv_iconst (v := 1) C.1 C.2.1 dX16_next_285 (by decide) ?_
    refine lv_iadd C.1 C.2.1 dX16_next_286 ?_
    refine r_putI C hm hs flX16_141 (Or.inl fm_17_12) dX16_next_287 hh (fun h34 H locs _ hh hm hs => ?_)
    exact r_vretW hQ C hr hm hs hh dX16_next_290
  have B0 : ∀ n : Nat, ∀ (h : MHp) (H : Heap) (locs : List Loc) (ls : Array Slot) (a0 : Nat) , mHp (gD G) (gC G) (gB G) h H → va_S (fun q => gB G ≤ q) s.heap H locs → lv_has ls 3 [(0, va_rf (some a0))] → mX16_next_l0 n h a0 = some res → W p l e ({ frames := 1, cells := 0, slots := 0, locals := 21 }) s m args below meth c H locs 0 0 Q (F0 m 0 ls []) := by
    intro n
    induction n with
    | zero => intro h H locs ls a0 hm hs hl hh; cases hh
    | succ n ih =>
      intro h H locs ls a0 hm hs hl hh
      unfold mX16_next_l0 at hh
      refine r_aload_n C.1 C.2.1 dX16_next_0 rfl (lv_at hl 0 rfl) ?_
      refine r_aload_n C.1 C.2.1 dX16_next_1 rfl (lv_at hl 0 rfl) ?_
      refine r_getI C hm flX16_141 dX16_next_2 hh (fun x35 _ hh => ?_)
      refine r_cV C X hm hs mlX16_144 mvX16_144 hh (vv := fun r => some (.int r)) (hp := fun r => h) (fun b r hg => c_X16_byteAt l G h b _ r hg) rfl rfl (Nat.le_of_ble_eq_true rfl) (Nat.le_of_ble_eq_true rfl) (Nat.le_of_ble_eq_true rfl) hl.1 dX16_next_5 (fun b37 r36 H locs hgr36 hh hm hs => ?_)
      refine W.eq (g2 := F0 m 8 ls [.int r36]) rfl ?_
      refine lv_bipush (v := 32) C.1 C.2.1 dX16_next_8 (by decide) ?_
      refine lv_icmp_ne (tgt := 26) C.1 C.2.1 dX16_next_10 (by decide) (fun c60 => ?_) (fun c60 => ?_)
      · rw [if_neg c60] at hh
        refine r_aload_n C.1 C.2.1 dX16_next_26 rfl (lv_at hl 0 rfl) ?_
        refine r_aload_n C.1 C.2.1 dX16_next_27 rfl (lv_at hl 0 rfl) ?_
        refine r_getI C hm flX16_141 dX16_next_28 hh (fun x38 _ hh => ?_)
        refine r_putI C hm hs flX16_122 (Or.inl fm_17_14) dX16_next_31 hh (fun h39 H locs _ hh hm hs => ?_)
        refine r_aload_n C.1 C.2.1 dX16_next_34 rfl (lv_at hl 0 rfl) ?_
        refine lv_iconst (v := 0) C.1 C.2.1 dX16_next_35 (by decide) ?_
        refine r_putI C hm hs flX16_148 (Or.inl fm_17_13) dX16_next_36 hh (fun h40 H locs _ hh hm hs => ?_)
        refine r_aload_n C.1 C.2.1 dX16_next_39 rfl (lv_at hl 0 rfl) ?_
        refine lv_iconst (v := 0) C.1 C.2.1 dX16_next_40 (by decide) ?_
        refine r_putI C hm hs flX16_151 (Or.inl fm_17_15) dX16_next_41 hh (fun h41 H locs _ hh hm hs => ?_)
        refine r_aload_n C.1 C.2.1 dX16_next_44 rfl (lv_at hl 0 rfl) ?_
        refine r_aload_n C.1 C.2.1 dX16_next_45 rfl (lv_at hl 0 rfl) ?_
        refine r_getI C hm flX16_141 dX16_next_46 hh (fun x42 _ hh => ?_)
        refine r_cV C X hm hs mlX16_144 mvX16_144 hh (vv := fun r => some (.int r)) (hp := fun r => h41) (fun b r hg => c_X16_byteAt l G h41 b _ r hg) rfl rfl (Nat.le_of_ble_eq_true rfl) (Nat.le_of_ble_eq_true rfl) (Nat.le_of_ble_eq_true rfl) hl.1 dX16_next_49 (fun b44 r43 H locs hgr43 hh hm hs => ?_)
        refine W.eq (g2 := F0 m 52 ls [.int r43]) rfl ?_
        refine lv_istore_n (i := 1) (lv' := [(1, .int r43), (0, va_rf (some a0))]) C.1 C.2.1 dX16_next_52 rfl hl (by decide) (by simp [va_cat, vc_i, vc_l, vc_r]) (fun ls hl => ?_)
        refine lv_iconst (v := 0) C.1 C.2.1 dX16_next_53 (by decide) ?_
        refine lv_istore_n (i := 2) (lv' := [(2, .int 0), (1, .int r43), (0, va_rf (some a0))]) C.1 C.2.1 dX16_next_54 rfl hl (by decide) rfl (fun ls hl => ?_)
        refine lv_iload_n C.1 C.2.1 dX16_next_55 rfl (lv_at hl 1 rfl) ?_
        refine lv_iconst (v := (-1)) C.1 C.2.1 dX16_next_56 (by decide) ?_
        refine lv_icmp_ne (tgt := 68) C.1 C.2.1 dX16_next_57 (by decide) (fun c57 => ?_) (fun c57 => ?_)
        · rw [if_neg c57] at hh
          refine lv_iload_n C.1 C.2.1 dX16_next_68 rfl (lv_at hl 1 rfl) ?_
          refine r_cS C X hm hs mlX16_154 msX16_154 hh (vv := fun r => some (.int r)) (hp := fun r => h41) (fun r hg => c_X16_isLetter l G h41 _ r hg) rfl rfl (Nat.le_of_ble_eq_true rfl) (Nat.le_of_ble_eq_true rfl) (Nat.le_of_ble_eq_true rfl) hl.1 dX16_next_69 (fun r45 H locs hgr45 hh hm hs => ?_)
          refine W.eq (g2 := F0 m 72 ls [.int r45]) rfl ?_
          refine lv_if_eq (tgt := 157) C.1 C.2.1 dX16_next_72 (by decide) (fun c55 => ?_) (fun c55 => ?_)
          · rw [if_pos c55] at hh
            refine lv_iload_n C.1 C.2.1 dX16_next_157 rfl (lv_at hl 1 rfl) ?_
            refine r_cS C X hm hs mlX16_162 msX16_162 hh (vv := fun r => some (.int r)) (hp := fun r => h41) (fun r hg => c_X16_isDigit l G h41 _ r hg) rfl rfl (Nat.le_of_ble_eq_true rfl) (Nat.le_of_ble_eq_true rfl) (Nat.le_of_ble_eq_true rfl) hl.1 dX16_next_158 (fun r46 H locs hgr46 hh hm hs => ?_)
            refine W.eq (g2 := F0 m 161 ls [.int r46]) rfl ?_
            refine lv_if_eq (tgt := 240) C.1 C.2.1 dX16_next_161 (by decide) (fun c53 => ?_) (fun c53 => ?_)
            · rw [if_pos c53] at hh
              refine lv_iload_n C.1 C.2.1 dX16_next_240 rfl (lv_at hl 1 rfl) ?_
              refine lv_bipush (v := 59) C.1 C.2.1 dX16_next_241 (by decide) ?_
              refine lv_icmp_eq (tgt := 270) C.1 C.2.1 dX16_next_243 (by decide) (fun c51 => ?_) (fun c51 => ?_)
              · rw [if_pos c51] at hh
                exact B270 _ _ _ _ _ _  hm hs (lv_sub hl [2, 1] rfl) hh
              · rw [if_neg c51] at hh
                refine lv_iload_n C.1 C.2.1 dX16_next_246 rfl (lv_at hl 1 rfl) ?_
                refine lv_bipush (v := 44) C.1 C.2.1 dX16_next_247 (by decide) ?_
                refine lv_icmp_eq (tgt := 270) C.1 C.2.1 dX16_next_249 (by decide) (fun c50 => ?_) (fun c50 => ?_)
                · rw [if_pos c50] at hh
                  exact B270 _ _ _ _ _ _  hm hs (lv_sub hl [2, 1] rfl) hh
                · rw [if_neg c50] at hh
                  refine lv_iload_n C.1 C.2.1 dX16_next_252 rfl (lv_at hl 1 rfl) ?_
                  refine lv_bipush (v := 61) C.1 C.2.1 dX16_next_253 (by decide) ?_
                  refine lv_icmp_eq (tgt := 270) C.1 C.2.1 dX16_next_255 (by decide) (fun c49 => ?_) (fun c49 => ?_)
                  · rw [if_pos c49] at hh
                    exact B270 _ _ _ _ _ _  hm hs (lv_sub hl [2, 1] rfl) hh
                  · rw [if_neg c49] at hh
                    refine lv_iload_n C.1 C.2.1 dX16_next_258 rfl (lv_at hl 1 rfl) ?_
                    refine lv_bipush (v := 60) C.1 C.2.1 dX16_next_259 (by decide) ?_
                    refine lv_icmp_eq (tgt := 270) C.1 C.2.1 dX16_next_261 (by decide) (fun c48 => ?_) (fun c48 => ?_)
                    · rw [if_pos c48] at hh
                      exact B270 _ _ _ _ _ _  hm hs (lv_sub hl [2, 1] rfl) hh
                    · rw [if_neg c48] at hh
                      refine lv_iload_n C.1 C.2.1 dX16_next_264 rfl (lv_at hl 1 rfl) ?_
                      refine lv_bipush (v := 62) C.1 C.2.1 dX16_next_265 (by decide) ?_
                      refine lv_icmp_ne (tgt := 290) C.1 C.2.1 dX16_next_267 (by decide) (fun c47 => ?_) (fun c47 => ?_)
                      · rw [if_neg c47] at hh
                        exact r_vretW hQ C hr hm hs hh dX16_next_290
                      · rw [if_pos c47] at hh
                        exact B270 _ _ _ _ _ _  hm hs (lv_sub hl [2, 1] rfl) hh
            · rw [if_neg c53] at hh
              refine r_aload_n C.1 C.2.1 dX16_next_164 rfl (lv_at hl 2 rfl) ?_
              refine lv_iconst (v := 0) C.1 C.2.1 dX16_next_165 (by decide) ?_
              refine r_putI C hm hs flX16_165 (Or.inl fm_17_16) dX16_next_166 hh (fun h52 H locs _ hh hm hs => ?_)
              exact B169 FUEL _ _ _ _ _ _  hm hs (lv_sub hl [2, 0] rfl) hh
          · rw [if_neg c55] at hh
            refine r_aload_n C.1 C.2.1 dX16_next_75 rfl (lv_at hl 2 rfl) ?_
            refine lv_lconst (v := 0) C.1 C.2.1 dX16_next_76 (by decide) ?_
            refine r_putL C hm hs flX16_158 (Or.inl fm_17_17) dX16_next_77 hh (fun h54 H locs _ hh hm hs => ?_)
            exact B80 FUEL _ _ _ _ _ _  hm hs (lv_sub hl [2, 0] rfl) hh
        · rw [if_pos c57] at hh
          refine r_aload_n C.1 C.2.1 dX16_next_60 rfl (lv_at hl 2 rfl) ?_
          refine lv_iconst (v := 1) C.1 C.2.1 dX16_next_61 (by decide) ?_
          refine r_putI C hm hs flX16_148 (Or.inl fm_17_13) dX16_next_62 hh (fun h56 H locs _ hh hm hs => ?_)
          refine lv_goto (tgt := 290) C.1 C.2.1 dX16_next_65 (by decide) ?_
          exact r_vretW hQ C hr hm hs hh dX16_next_290
      · rw [if_pos c60] at hh
        refine r_aload_n C.1 C.2.1 dX16_next_13 rfl (lv_at hl 0 rfl) ?_
        refine lv_dup C.1 C.2.1 dX16_next_14 (va_cat _) ?_
        refine r_getI C hm flX16_141 dX16_next_15 hh (fun x58 _ hh => ?_)
        refine lv_iconst (v := 1) C.1 C.2.1 dX16_next_18 (by decide) ?_
        refine lv_iadd C.1 C.2.1 dX16_next_19 ?_
        refine r_putI C hm hs flX16_141 (Or.inl fm_17_12) dX16_next_20 hh (fun h59 H locs _ hh hm hs => ?_)
        refine lv_goto (tgt := 0) C.1 C.2.1 dX16_next_23 (by decide) ?_
        exact ih _ _ _ _ _  hm hs (lv_sub hl [0] rfl) hh
  unfold mX16_next at hh
  exact B0 FUEL _ _ _ _ _  hm hs (lv_sub hl [0] rfl) hh
def mX16_isWord (h : MHp) (a0 : Nat) (a1 : Nat) : Option (Int32) := (gI 17 13 h (some a0)).bind fun x1 => (if x1 = 2 then (gL 17 17 h (some a0)).bind fun x2 => (mX16_wordOf h a1).bind fun r3 => (if (lg_cmp x2 r3) = 0 then some 1 else some 0) else some 0)
set_option maxRecDepth 100000 in
set_option maxHeartbeats 4000000 in
theorem c_X16_isWord (l : Launch) (G : Env0) (h : MHp) (a0 : Nat) (a1 : Nat) (res : Int32) (hh : mX16_isWord h a0 a1 = some res) : MG l yX16_isWord cX16_isWord 2 (some .boolean) 5 108 0 0 G h [.ref a0, .ref (G.2.2.2.2.1 a1)] (some (.int res)) (h) := by
  refine MG_of (own := RX16) (plainFor_of_name (by decide)) rfl (Nat.le_of_ble_eq_true rfl) ?_
  intro p e s m args below meth c Q ls hQ C X hin hm hs hl hr
  have hl : lv_has ls 2 [(0, va_rf (some a0)), (1, .ref (G.2.2.2.2.1 a1))] := hl
  unfold mX16_isWord at hh
  refine r_aload_n C.1 C.2.1 dX16_isWord_0 rfl (lv_at hl 0 rfl) ?_
  refine r_getI C hm flX16_148 dX16_isWord_1 hh (fun x1 _ hh => ?_)
  refine lv_iconst (v := 2) C.1 C.2.1 dX16_isWord_4 (by decide) ?_
  refine lv_icmp_ne (tgt := 24) C.1 C.2.1 dX16_isWord_5 (by decide) (fun c5 => ?_) (fun c5 => ?_)
  · rw [if_neg c5] at hh
    refine lv_iconst (v := 0) C.1 C.2.1 dX16_isWord_24 (by decide) ?_
    exact r_bretP hQ C hr hm hs (by decide) hh dX16_isWord_25
  · rw [if_pos c5] at hh
    refine r_aload_n C.1 C.2.1 dX16_isWord_8 rfl (lv_at hl 0 rfl) ?_
    refine r_getL C hm flX16_158 dX16_isWord_9 hh (fun x2 _ hh => ?_)
    refine lv_aload_n C.1 C.2.1 dX16_isWord_12 rfl (lv_at hl 1 rfl) ?_
    refine r_cS C X hm hs mlX16_168 msX16_168 hh (vv := fun r => some (.long r)) (hp := fun r => h) (fun r hg => c_X16_wordOf l G h _ r hg) rfl rfl (Nat.le_of_ble_eq_true rfl) (Nat.le_of_ble_eq_true rfl) (Nat.le_of_ble_eq_true rfl) hl.1 dX16_isWord_13 (fun r3 H locs hgr3 hh hm hs => ?_)
    refine W.eq (g2 := F0 m 16 ls [.long r3, .long x2]) rfl ?_
    refine W.lcmp C.1 C.2.1 dX16_isWord_16 ?_
    refine lv_if_ne (tgt := 24) C.1 C.2.1 dX16_isWord_17 (by decide) (fun c4 => ?_) (fun c4 => ?_)
    · rw [if_neg c4] at hh
      refine lv_iconst (v := 0) C.1 C.2.1 dX16_isWord_24 (by decide) ?_
      exact r_bretP hQ C hr hm hs (by decide) hh dX16_isWord_25
    · rw [if_pos c4] at hh
      refine lv_iconst (v := 1) C.1 C.2.1 dX16_isWord_20 (by decide) ?_
      refine lv_goto (tgt := 25) C.1 C.2.1 dX16_isWord_21 (by decide) ?_
      exact r_bretP hQ C hr hm hs (by decide) hh dX16_isWord_25
def mX16_is (h : MHp) (a0 : Nat) (a1 : Int32) : Option (Int32) := (gI 17 13 h (some a0)).bind fun x1 => (if x1 = 4 then (gI 17 15 h (some a0)).bind fun x2 => (if x2 = a1 then some 1 else some 0) else some 0)
set_option maxRecDepth 100000 in
set_option maxHeartbeats 4000000 in
theorem c_X16_is (l : Launch) (G : Env0) (h : MHp) (a0 : Nat) (a1 : Int32) (res : Int32) (hh : mX16_is h a0 a1 = some res) : MG l yX16_is cX16_is 2 (some .boolean) 0 0 0 0 G h [.ref a0, .int a1] (some (.int res)) (h) := by
  refine MG_of (own := RX16) (plainFor_of_name (by decide)) rfl (Nat.le_of_ble_eq_true rfl) ?_
  intro p e s m args below meth c Q ls hQ C X hin hm hs hl hr
  have hl : lv_has ls 2 [(0, va_rf (some a0)), (1, .int a1)] := hl
  unfold mX16_is at hh
  refine r_aload_n C.1 C.2.1 dX16_is_0 rfl (lv_at hl 0 rfl) ?_
  refine r_getI C hm flX16_148 dX16_is_1 hh (fun x1 _ hh => ?_)
  refine lv_iconst (v := 4) C.1 C.2.1 dX16_is_4 (by decide) ?_
  refine lv_icmp_ne (tgt := 20) C.1 C.2.1 dX16_is_5 (by decide) (fun c4 => ?_) (fun c4 => ?_)
  · rw [if_neg c4] at hh
    refine lv_iconst (v := 0) C.1 C.2.1 dX16_is_20 (by decide) ?_
    exact r_bretP hQ C hr hm hs (by decide) hh dX16_is_21
  · rw [if_pos c4] at hh
    refine r_aload_n C.1 C.2.1 dX16_is_8 rfl (lv_at hl 0 rfl) ?_
    refine r_getI C hm flX16_151 dX16_is_9 hh (fun x2 _ hh => ?_)
    refine lv_iload_n C.1 C.2.1 dX16_is_12 rfl (lv_at hl 1 rfl) ?_
    refine lv_icmp_ne (tgt := 20) C.1 C.2.1 dX16_is_13 (by decide) (fun c3 => ?_) (fun c3 => ?_)
    · rw [if_neg c3] at hh
      refine lv_iconst (v := 0) C.1 C.2.1 dX16_is_20 (by decide) ?_
      exact r_bretP hQ C hr hm hs (by decide) hh dX16_is_21
    · rw [if_pos c3] at hh
      refine lv_iconst (v := 1) C.1 C.2.1 dX16_is_16 (by decide) ?_
      refine lv_goto (tgt := 21) C.1 C.2.1 dX16_is_17 (by decide) ?_
      exact r_bretP hQ C hr hm hs (by decide) hh dX16_is_21
def mX16_isName (h : MHp) (a0 : Nat) : Option (Int32) := (gI 17 13 h (some a0)).bind fun x1 => (if x1 = 2 then (rcv 17 h (some a0)).bind fun b3 => (mX16_isWord h b3 0).bind fun r2 => (if r2 = 0 then (rcv 17 h (some a0)).bind fun b5 => (mX16_isWord h b5 1).bind fun r4 => (if r4 = 0 then (rcv 17 h (some a0)).bind fun b7 => (mX16_isWord h b7 2).bind fun r6 => (if r6 = 0 then (rcv 17 h (some a0)).bind fun b9 => (mX16_isWord h b9 3).bind fun r8 => (if r8 = 0 then (rcv 17 h (some a0)).bind fun b11 => (mX16_isWord h b11 4).bind fun r10 => (if r10 = 0 then (rcv 17 h (some a0)).bind fun b13 => (mX16_isWord h b13 5).bind fun r12 => (if r12 = 0 then (rcv 17 h (some a0)).bind fun b15 => (mX16_isWord h b15 6).bind fun r14 => (if r14 = 0 then some 1 else some 0) else some 0) else some 0) else some 0) else some 0) else some 0) else some 0) else some 0)
set_option maxRecDepth 100000 in
set_option maxHeartbeats 4000000 in
theorem c_X16_isName (l : Launch) (G : Env0) (h : MHp) (a0 : Nat) (res : Int32) (hh : mX16_isName h a0 = some res) : MG l yX16_isName cX16_isName 1 (some .boolean) 6 129 0 0 G h [.ref a0] (some (.int res)) (h) := by
  refine MG_of (own := RX16) (plainFor_of_name (by decide)) rfl (Nat.le_of_ble_eq_true rfl) ?_
  intro p e s m args below meth c Q ls hQ C X hin hm hs hl hr
  have hl : lv_has ls 1 [(0, va_rf (some a0))] := hl
  unfold mX16_isName at hh
  refine r_aload_n C.1 C.2.1 dX16_isName_0 rfl (lv_at hl 0 rfl) ?_
  refine r_getI C hm flX16_148 dX16_isName_1 hh (fun x1 _ hh => ?_)
  refine lv_iconst (v := 2) C.1 C.2.1 dX16_isName_4 (by decide) ?_
  refine lv_icmp_ne (tgt := 75) C.1 C.2.1 dX16_isName_5 (by decide) (fun c23 => ?_) (fun c23 => ?_)
  · rw [if_neg c23] at hh
    refine lv_iconst (v := 0) C.1 C.2.1 dX16_isName_75 (by decide) ?_
    exact r_bretP hQ C hr hm hs (by decide) hh dX16_isName_76
  · rw [if_pos c23] at hh
    refine r_aload_n C.1 C.2.1 dX16_isName_8 rfl (lv_at hl 0 rfl) ?_
    refine r_ldcS C X (i := 0) (by decide) rfl dX16_isName_9 ?_
    refine r_cV C X hm hs mlX16_174 mvX16_174 hh (vv := fun r => some (.int r)) (hp := fun r => h) (fun b r hg => c_X16_isWord l G h b _ r hg) rfl rfl (Nat.le_of_ble_eq_true rfl) (Nat.le_of_ble_eq_true rfl) (Nat.le_of_ble_eq_true rfl) hl.1 dX16_isName_11 (fun b3 r2 H locs hgr2 hh hm hs => ?_)
    refine W.eq (g2 := F0 m 14 ls [.int r2]) rfl ?_
    refine lv_if_ne (tgt := 75) C.1 C.2.1 dX16_isName_14 (by decide) (fun c22 => ?_) (fun c22 => ?_)
    · rw [if_neg c22] at hh
      refine lv_iconst (v := 0) C.1 C.2.1 dX16_isName_75 (by decide) ?_
      exact r_bretP hQ C hr hm hs (by decide) hh dX16_isName_76
    · rw [if_pos c22] at hh
      refine r_aload_n C.1 C.2.1 dX16_isName_17 rfl (lv_at hl 0 rfl) ?_
      refine r_ldcS C X (i := 1) (by decide) rfl dX16_isName_18 ?_
      refine r_cV C X hm hs mlX16_174 mvX16_174 hh (vv := fun r => some (.int r)) (hp := fun r => h) (fun b r hg => c_X16_isWord l G h b _ r hg) rfl rfl (Nat.le_of_ble_eq_true rfl) (Nat.le_of_ble_eq_true rfl) (Nat.le_of_ble_eq_true rfl) hl.1 dX16_isName_20 (fun b5 r4 H locs hgr4 hh hm hs => ?_)
      refine W.eq (g2 := F0 m 23 ls [.int r4]) rfl ?_
      refine lv_if_ne (tgt := 75) C.1 C.2.1 dX16_isName_23 (by decide) (fun c21 => ?_) (fun c21 => ?_)
      · rw [if_neg c21] at hh
        refine lv_iconst (v := 0) C.1 C.2.1 dX16_isName_75 (by decide) ?_
        exact r_bretP hQ C hr hm hs (by decide) hh dX16_isName_76
      · rw [if_pos c21] at hh
        refine r_aload_n C.1 C.2.1 dX16_isName_26 rfl (lv_at hl 0 rfl) ?_
        refine r_ldcS C X (i := 2) (by decide) rfl dX16_isName_27 ?_
        refine r_cV C X hm hs mlX16_174 mvX16_174 hh (vv := fun r => some (.int r)) (hp := fun r => h) (fun b r hg => c_X16_isWord l G h b _ r hg) rfl rfl (Nat.le_of_ble_eq_true rfl) (Nat.le_of_ble_eq_true rfl) (Nat.le_of_ble_eq_true rfl) hl.1 dX16_isName_29 (fun b7 r6 H locs hgr6 hh hm hs => ?_)
        refine W.eq (g2 := F0 m 32 ls [.int r6]) rfl ?_
        refine lv_if_ne (tgt := 75) C.1 C.2.1 dX16_isName_32 (by decide) (fun c20 => ?_) (fun c20 => ?_)
        · rw [if_neg c20] at hh
          refine lv_iconst (v := 0) C.1 C.2.1 dX16_isName_75 (by decide) ?_
          exact r_bretP hQ C hr hm hs (by decide) hh dX16_isName_76
        · rw [if_pos c20] at hh
          refine r_aload_n C.1 C.2.1 dX16_isName_35 rfl (lv_at hl 0 rfl) ?_
          refine r_ldcS C X (i := 3) (by decide) rfl dX16_isName_36 ?_
          refine r_cV C X hm hs mlX16_174 mvX16_174 hh (vv := fun r => some (.int r)) (hp := fun r => h) (fun b r hg => c_X16_isWord l G h b _ r hg) rfl rfl (Nat.le_of_ble_eq_true rfl) (Nat.le_of_ble_eq_true rfl) (Nat.le_of_ble_eq_true rfl) hl.1 dX16_isName_38 (fun b9 r8 H locs hgr8 hh hm hs => ?_)
          refine W.eq (g2 := F0 m 41 ls [.int r8]) rfl ?_
          refine lv_if_ne (tgt := 75) C.1 C.2.1 dX16_isName_41 (by decide) (fun c19 => ?_) (fun c19 => ?_)
          · rw [if_neg c19] at hh
            refine lv_iconst (v := 0) C.1 C.2.1 dX16_isName_75 (by decide) ?_
            exact r_bretP hQ C hr hm hs (by decide) hh dX16_isName_76
          · rw [if_pos c19] at hh
            refine r_aload_n C.1 C.2.1 dX16_isName_44 rfl (lv_at hl 0 rfl) ?_
            refine r_ldcS C X (i := 4) (by decide) rfl dX16_isName_45 ?_
            refine r_cV C X hm hs mlX16_174 mvX16_174 hh (vv := fun r => some (.int r)) (hp := fun r => h) (fun b r hg => c_X16_isWord l G h b _ r hg) rfl rfl (Nat.le_of_ble_eq_true rfl) (Nat.le_of_ble_eq_true rfl) (Nat.le_of_ble_eq_true rfl) hl.1 dX16_isName_47 (fun b11 r10 H locs hgr10 hh hm hs => ?_)
            refine W.eq (g2 := F0 m 50 ls [.int r10]) rfl ?_
            refine lv_if_ne (tgt := 75) C.1 C.2.1 dX16_isName_50 (by decide) (fun c18 => ?_) (fun c18 => ?_)
            · rw [if_neg c18] at hh
              refine lv_iconst (v := 0) C.1 C.2.1 dX16_isName_75 (by decide) ?_
              exact r_bretP hQ C hr hm hs (by decide) hh dX16_isName_76
            · rw [if_pos c18] at hh
              refine r_aload_n C.1 C.2.1 dX16_isName_53 rfl (lv_at hl 0 rfl) ?_
              refine r_ldcS C X (i := 5) (by decide) rfl dX16_isName_54 ?_
              refine r_cV C X hm hs mlX16_174 mvX16_174 hh (vv := fun r => some (.int r)) (hp := fun r => h) (fun b r hg => c_X16_isWord l G h b _ r hg) rfl rfl (Nat.le_of_ble_eq_true rfl) (Nat.le_of_ble_eq_true rfl) (Nat.le_of_ble_eq_true rfl) hl.1 dX16_isName_56 (fun b13 r12 H locs hgr12 hh hm hs => ?_)
              refine W.eq (g2 := F0 m 59 ls [.int r12]) rfl ?_
              refine lv_if_ne (tgt := 75) C.1 C.2.1 dX16_isName_59 (by decide) (fun c17 => ?_) (fun c17 => ?_)
              · rw [if_neg c17] at hh
                refine lv_iconst (v := 0) C.1 C.2.1 dX16_isName_75 (by decide) ?_
                exact r_bretP hQ C hr hm hs (by decide) hh dX16_isName_76
              · rw [if_pos c17] at hh
                refine r_aload_n C.1 C.2.1 dX16_isName_62 rfl (lv_at hl 0 rfl) ?_
                refine r_ldcS C X (i := 6) (by decide) rfl dX16_isName_63 ?_
                refine r_cV C X hm hs mlX16_174 mvX16_174 hh (vv := fun r => some (.int r)) (hp := fun r => h) (fun b r hg => c_X16_isWord l G h b _ r hg) rfl rfl (Nat.le_of_ble_eq_true rfl) (Nat.le_of_ble_eq_true rfl) (Nat.le_of_ble_eq_true rfl) hl.1 dX16_isName_65 (fun b15 r14 H locs hgr14 hh hm hs => ?_)
                refine W.eq (g2 := F0 m 68 ls [.int r14]) rfl ?_
                refine lv_if_ne (tgt := 75) C.1 C.2.1 dX16_isName_68 (by decide) (fun c16 => ?_) (fun c16 => ?_)
                · rw [if_neg c16] at hh
                  refine lv_iconst (v := 0) C.1 C.2.1 dX16_isName_75 (by decide) ?_
                  exact r_bretP hQ C hr hm hs (by decide) hh dX16_isName_76
                · rw [if_pos c16] at hh
                  refine lv_iconst (v := 1) C.1 C.2.1 dX16_isName_71 (by decide) ?_
                  refine lv_goto (tgt := 76) C.1 C.2.1 dX16_isName_72 (by decide) ?_
                  exact r_bretP hQ C hr hm hs (by decide) hh dX16_isName_76
def mX16_needWord (h : MHp) (a0 : Nat) (a1 : Nat) : Option ((Unit ⊕ Nat) × MHp) := (rcv 17 h (some a0)).bind fun b2 => (mX16_isWord h b2 a1).bind fun r1 => (if r1 = 0 then (rcv 17 h (some a0)).bind fun b6 => (mX16_stop h b6 1).bind fun r5 => (rcv 14 r5.2 r5.1).bind fun q7 => some (Sum.inr q7, r5.2) else (rcv 17 h (some a0)).bind fun b4 => (mX16_next h b4).bind fun r3 => some (Sum.inl (), r3))
set_option maxRecDepth 100000 in
set_option maxHeartbeats 4000000 in
theorem c_X16_needWord (l : Launch) (G : Env0) (h : MHp) (a0 : Nat) (a1 : Nat) (res : (Unit ⊕ Nat) × MHp) (hh : mX16_needWord h a0 a1 = some res) : UG l yX16_needWord cX16_needWord 2 none 6 129 0 0 G h [.ref a0, .ref (G.2.2.2.2.1 a1)] (fun _ => none) res := by
  refine UG_of (own := RX16) (by decide) rfl (Nat.le_of_ble_eq_true rfl) ?_
  intro p e s m args below meth c Q ls hQ C X hx0 hm hs hl hr
  have hl : lv_has ls 2 [(0, va_rf (some a0)), (1, .ref (G.2.2.2.2.1 a1))] := hl
  unfold mX16_needWord at hh
  refine r_aload_n C.1 C.2.1 dX16_needWord_0 rfl (lv_at hl 0 rfl) ?_
  refine lv_aload_n C.1 C.2.1 dX16_needWord_1 rfl (lv_at hl 1 rfl) ?_
  refine r_cV C X hm hs mlX16_174 mvX16_174 hh (vv := fun r => some (.int r)) (hp := fun r => h) (fun b r hg => c_X16_isWord l G h b _ r hg) rfl rfl (Nat.le_of_ble_eq_true rfl) (Nat.le_of_ble_eq_true rfl) (Nat.le_of_ble_eq_true rfl) hl.1 dX16_needWord_2 (fun b2 r1 H locs hgr1 hh hm hs => ?_)
  refine W.eq (g2 := F0 m 5 ls [.int r1]) rfl ?_
  refine lv_if_ne (tgt := 14) C.1 C.2.1 dX16_needWord_5 (by decide) (fun c8 => ?_) (fun c8 => ?_)
  · rw [if_neg c8] at hh
    refine r_aload_n C.1 C.2.1 dX16_needWord_14 rfl (lv_at hl 0 rfl) ?_
    refine r_cV C X hm hs mlX16_192 mvX16_192 hh (vv := fun r => none) (hp := fun r => r) (fun b r hg => c_X16_next l G h b  r hg) rfl rfl (Nat.le_of_ble_eq_true rfl) (Nat.le_of_ble_eq_true rfl) (Nat.le_of_ble_eq_true rfl) hl.1 dX16_needWord_15 (fun b4 r3 H locs hgr3 hh hm hs => ?_)
    refine W.eq (g2 := F0 m 18 ls []) rfl ?_
    exact r_uretV hQ C hr hm hs hh dX16_needWord_18
  · rw [if_pos c8] at hh
    refine r_aload_n C.1 C.2.1 dX16_needWord_8 rfl (lv_at hl 0 rfl) ?_
    refine lv_iconst (v := 1) C.1 C.2.1 dX16_needWord_9 (by decide) ?_
    refine r_cV C X hm hs mlX16_189 mvX16_189 hh (vv := fun r => some (va_rf r.1)) (hp := fun r => r.2) (fun b r hg => c_X16_stop l G h b _ r hg) rfl rfl (Nat.le_of_ble_eq_true rfl) (Nat.le_of_ble_eq_true rfl) (Nat.le_of_ble_eq_true rfl) hl.1 dX16_needWord_10 (fun b6 r5 H locs hgr5 hh hm hs => ?_)
    refine W.eq (g2 := F0 m 13 ls [va_rf r5.1]) rfl ?_
    exact r_uthrow hQ C hx0 hm hs hh ⟨(Nat.le_of_ble_eq_true rfl), (Nat.le_of_ble_eq_true rfl)⟩ dX16_needWord_13
def mX16_readField_l142 : Nat → MHp → Nat → Int32 → Int32 → Int32 → Option ((Unit ⊕ Nat) × MHp)
  | 0, _, _, _, _, _ => none
  | n + 1, h, a0, v1, v2, v3 => (if v1 ≤ v3 then (if v2 ≤ 20000 then (gR 17 5 h (some a0)).bind fun x1 => (gR 13 3 h x1).bind fun x2 => (gI 17 16 h (some a0)).bind fun x3 => (pAI 20 h x2 v1 x3).bind fun h4 => (rcv 17 h4 (some a0)).bind fun b6 => (mX16_next h4 b6).bind fun r5 => (rcv 17 r5 (some a0)).bind fun b8 => (mX16_needWord r5 b8 8).bind fun r7 => (match r7 with | (Sum.inl x10, h9) => (gI 17 13 h9 (some a0)).bind fun x11 => (if x11 = 3 then (gI 17 16 h9 (some a0)).bind fun x12 => (mX16_in h9 x12 1 9).bind fun r13 => (if r13 = 0 then (rcv 17 h9 (some a0)).bind fun b21 => (mX16_stop h9 b21 4).bind fun r20 => (rcv 14 r20.2 r20.1).bind fun q22 => some (Sum.inr q22, r20.2) else (gR 17 5 h9 (some a0)).bind fun x14 => (gR 13 4 h9 x14).bind fun x15 => (gI 17 16 h9 (some a0)).bind fun x16 => (pAI 20 h9 x15 v1 x16).bind fun h17 => (rcv 17 h17 (some a0)).bind fun b19 => (mX16_next h17 b19).bind fun r18 => some (Sum.inl (), r18)) else (rcv 17 h9 (some a0)).bind fun b25 => (mX16_stop h9 b25 1).bind fun r24 => (rcv 14 r24.2 r24.1).bind fun q26 => some (Sum.inr q26, r24.2)) | (Sum.inr q28, h9) => some (Sum.inr q28, h9)) else (rcv 17 h (some a0)).bind fun b30 => (mX16_stop h b30 5).bind fun r29 => (rcv 14 r29.2 r29.1).bind fun q31 => some (Sum.inr q31, r29.2)) else (gR 17 5 h (some a0)).bind fun x33 => (gR 13 3 h x33).bind fun x34 => (gAI 20 h x34 v3).bind fun x35 => mX16_readField_l142 n h a0 v1 (v2 * (x35 + 1)) (v3 + 1))
def mX16_readField (h : MHp) (a0 : Nat) : Option ((Unit ⊕ Nat) × MHp) := (rcv 17 h (some a0)).bind fun b38 => (mX16_next h b38).bind fun r37 => (rcv 17 r37 (some a0)).bind fun b40 => (mX16_isName r37 b40).bind fun r39 => (if r39 = 0 then (rcv 17 r37 (some a0)).bind fun b84 => (mX16_stop r37 b84 1).bind fun r83 => (rcv 14 r83.2 r83.1).bind fun q85 => some (Sum.inr q85, r83.2) else (gR 17 5 r37 (some a0)).bind fun x41 => (gL 17 17 r37 (some a0)).bind fun x42 => (rcv 13 r37 x41).bind fun b44 => (mX12_fieldOf r37 b44 x42).bind fun r43 => (if r43 = (-1) then (gR 17 5 r37 (some a0)).bind fun x45 => (gI 13 0 r37 x45).bind fun x46 => (if x46 = 6 then (rcv 17 r37 (some a0)).bind fun b76 => (mX16_stop r37 b76 5).bind fun r75 => (rcv 14 r75.2 r75.1).bind fun q77 => some (Sum.inr q77, r75.2) else (gR 17 5 r37 (some a0)).bind fun x47 => (gI 13 0 r37 x47).bind fun x48 => (gR 17 5 r37 (some a0)).bind fun x49 => (gR 13 2 r37 x49).bind fun x50 => (gL 17 17 r37 (some a0)).bind fun x51 => (pAL 21 r37 x50 x48 x51).bind fun h52 => (gR 17 5 h52 (some a0)).bind fun x53 => (gI 13 0 h52 x53).bind fun x54 => (pI 13 0 h52 x53 (x54 + 1)).bind fun h55 => (rcv 17 h55 (some a0)).bind fun b57 => (mX16_next h55 b57).bind fun r56 => (rcv 17 r56 (some a0)).bind fun b59 => (mX16_needWord r56 b59 7).bind fun r58 => (match r58 with | (Sum.inl x61, h60) => (gI 17 13 h60 (some a0)).bind fun x62 => (if x62 = 3 then (gI 17 16 h60 (some a0)).bind fun x63 => (mX16_in h60 x63 1 9).bind fun r64 => (if r64 = 0 then (rcv 17 h60 (some a0)).bind fun b67 => (mX16_stop h60 b67 4).bind fun r66 => (rcv 14 r66.2 r66.1).bind fun q68 => some (Sum.inr q68, r66.2) else (gI 17 16 h60 (some a0)).bind fun x65 => mX16_readField_l142 FUEL h60 a0 x48 (x65 + 1) 0) else (rcv 17 h60 (some a0)).bind fun b71 => (mX16_stop h60 b71 1).bind fun r70 => (rcv 14 r70.2 r70.1).bind fun q72 => some (Sum.inr q72, r70.2)) | (Sum.inr q74, h60) => some (Sum.inr q74, h60))) else (rcv 17 r37 (some a0)).bind fun b80 => (mX16_stop r37 b80 3).bind fun r79 => (rcv 14 r79.2 r79.1).bind fun q81 => some (Sum.inr q81, r79.2)))
set_option maxRecDepth 100000 in
set_option maxHeartbeats 4000000 in
theorem c_X16_readField (l : Launch) (G : Env0) (h : MHp) (a0 : Nat) (res : (Unit ⊕ Nat) × MHp) (hh : mX16_readField h a0 = some res) : UG l yX16_readField cX16_readField 4 none 7 150 0 0 G h [.ref a0] (fun _ => none) res := by
  refine UG_of (own := RX16) (by decide) rfl (Nat.le_of_ble_eq_true rfl) ?_
  intro p e s m args below meth c Q ls hQ C X hx0 hm hs hl hr
  have hl : lv_has ls 4 [(0, va_rf (some a0))] := hl
  have B142 : ∀ n : Nat, ∀ (h : MHp) (H : Heap) (locs : List Loc) (ls : Array Slot) (a0 : Nat) (v1 : Int32) (v2 : Int32) (v3 : Int32) , mHp (gD G) (gC G) (gB G) h H → va_S (fun q => gB G ≤ q) s.heap H locs → lv_has ls 4 [(0, va_rf (some a0)), (1, .int v1), (2, .int v2), (3, .int v3)] → mX16_readField_l142 n h a0 v1 v2 v3 = some res → W p l e ({ frames := 7, cells := 0, slots := 0, locals := 150 }) s m args below meth c H locs 0 0 Q (F0 m 142 ls []) := by
    intro n
    induction n with
    | zero => intro h H locs ls a0 v1 v2 v3 hm hs hl hh; cases hh
    | succ n ih =>
      intro h H locs ls a0 v1 v2 v3 hm hs hl hh
      unfold mX16_readField_l142 at hh
      refine lv_iload_n C.1 C.2.1 dX16_readField_142 rfl (lv_at hl 3 rfl) ?_
      refine lv_iload_n C.1 C.2.1 dX16_readField_143 rfl (lv_at hl 1 rfl) ?_
      refine lv_icmp_ge (tgt := 167) C.1 C.2.1 dX16_readField_144 (by decide) (fun c36 => ?_) (fun c36 => ?_)
      · rw [if_pos c36] at hh
        refine lv_iload_n C.1 C.2.1 dX16_readField_167 rfl (lv_at hl 2 rfl) ?_
        refine lv_sipush (v := 20000) C.1 C.2.1 dX16_readField_168 (by decide) ?_
        refine lv_icmp_le (tgt := 180) C.1 C.2.1 dX16_readField_171 (by decide) (fun c32 => ?_) (fun c32 => ?_)
        · rw [if_pos c32] at hh
          refine r_aload_n C.1 C.2.1 dX16_readField_180 rfl (lv_at hl 0 rfl) ?_
          refine r_getR C hm flX16_208 dX16_readField_181 hh (fun x1 _ hh => ?_)
          refine r_getR C hm flX16_235 dX16_readField_184 hh (fun x2 _ hh => ?_)
          refine lv_iload_n C.1 C.2.1 dX16_readField_187 rfl (lv_at hl 1 rfl) ?_
          refine r_aload_n C.1 C.2.1 dX16_readField_188 rfl (lv_at hl 0 rfl) ?_
          refine r_getI C hm flX16_165 dX16_readField_189 hh (fun x3 _ hh => ?_)
          refine r_ast C hm hs dX16_readField_192 hh (fun h4 H locs _ hh hm hs => ?_)
          refine r_aload_n C.1 C.2.1 dX16_readField_193 rfl (lv_at hl 0 rfl) ?_
          refine r_cV C X hm hs mlX16_192 mvX16_192 hh (vv := fun r => none) (hp := fun r => r) (fun b r hg => c_X16_next l G h4 b  r hg) rfl rfl (Nat.le_of_ble_eq_true rfl) (Nat.le_of_ble_eq_true rfl) (Nat.le_of_ble_eq_true rfl) hl.1 dX16_readField_194 (fun b6 r5 H locs hgr5 hh hm hs => ?_)
          refine W.eq (g2 := F0 m 197 ls []) rfl ?_
          refine r_aload_n C.1 C.2.1 dX16_readField_197 rfl (lv_at hl 0 rfl) ?_
          refine r_ldcS C X (i := 8) (by decide) rfl dX16_readField_198 ?_
          refine r_uV C X hm hs mlX16_227 (in_tbl q_1624 rfl) mvX16_227 hh (vv := (fun _ => none)) (fun b r hg => c_X16_needWord l G r5 b _ r hg) rfl rfl (Nat.le_of_ble_eq_true rfl) (Nat.le_of_ble_eq_true rfl) (Nat.le_of_ble_eq_true rfl) hl.1 ⟨(Nat.le_of_ble_eq_true rfl), (Nat.le_of_ble_eq_true rfl)⟩ dX16_readField_200 (fun q28 b8 h9 ce H locs _ hh hm hs e1 e2 e3 => r_uout hQ C hx0 hm hs e1 e2 e3 hh ⟨(Nat.le_of_ble_eq_true rfl), (Nat.le_of_ble_eq_true rfl)⟩) (fun b8 x10 h9 H locs _ hh hm hs => ?_)
          try dsimp only at hh
          refine W.eq (g2 := F0 m 203 ls []) rfl ?_
          refine r_aload_n C.1 C.2.1 dX16_readField_203 rfl (lv_at hl 0 rfl) ?_
          refine r_getI C hm flX16_148 dX16_readField_204 hh (fun x11 _ hh => ?_)
          refine lv_iconst (v := 3) C.1 C.2.1 dX16_readField_207 (by decide) ?_
          refine lv_icmp_eq (tgt := 217) C.1 C.2.1 dX16_readField_208 (by decide) (fun c27 => ?_) (fun c27 => ?_)
          · rw [if_pos c27] at hh
            refine r_aload_n C.1 C.2.1 dX16_readField_217 rfl (lv_at hl 0 rfl) ?_
            refine r_getI C hm flX16_165 dX16_readField_218 hh (fun x12 _ hh => ?_)
            refine lv_iconst (v := 1) C.1 C.2.1 dX16_readField_221 (by decide) ?_
            refine lv_bipush (v := 9) C.1 C.2.1 dX16_readField_222 (by decide) ?_
            refine r_cS C X hm hs mlX16_231 msX16_231 hh (vv := fun r => some (.int r)) (hp := fun r => h9) (fun r hg => c_X16_in l G h9 _ _ _ r hg) rfl rfl (Nat.le_of_ble_eq_true rfl) (Nat.le_of_ble_eq_true rfl) (Nat.le_of_ble_eq_true rfl) hl.1 dX16_readField_224 (fun r13 H locs hgr13 hh hm hs => ?_)
            refine W.eq (g2 := F0 m 227 ls [.int r13]) rfl ?_
            refine lv_if_ne (tgt := 236) C.1 C.2.1 dX16_readField_227 (by decide) (fun c23 => ?_) (fun c23 => ?_)
            · rw [if_neg c23] at hh
              refine r_aload_n C.1 C.2.1 dX16_readField_236 rfl (lv_at hl 0 rfl) ?_
              refine r_getR C hm flX16_208 dX16_readField_237 hh (fun x14 _ hh => ?_)
              refine r_getR C hm flX16_239 dX16_readField_240 hh (fun x15 _ hh => ?_)
              refine lv_iload_n C.1 C.2.1 dX16_readField_243 rfl (lv_at hl 1 rfl) ?_
              refine r_aload_n C.1 C.2.1 dX16_readField_244 rfl (lv_at hl 0 rfl) ?_
              refine r_getI C hm flX16_165 dX16_readField_245 hh (fun x16 _ hh => ?_)
              refine r_ast C hm hs dX16_readField_248 hh (fun h17 H locs _ hh hm hs => ?_)
              refine r_aload_n C.1 C.2.1 dX16_readField_249 rfl (lv_at hl 0 rfl) ?_
              refine r_cV C X hm hs mlX16_192 mvX16_192 hh (vv := fun r => none) (hp := fun r => r) (fun b r hg => c_X16_next l G h17 b  r hg) rfl rfl (Nat.le_of_ble_eq_true rfl) (Nat.le_of_ble_eq_true rfl) (Nat.le_of_ble_eq_true rfl) hl.1 dX16_readField_250 (fun b19 r18 H locs hgr18 hh hm hs => ?_)
              refine W.eq (g2 := F0 m 253 ls []) rfl ?_
              exact r_uretV hQ C hr hm hs hh dX16_readField_253
            · rw [if_pos c23] at hh
              refine r_aload_n C.1 C.2.1 dX16_readField_230 rfl (lv_at hl 0 rfl) ?_
              refine lv_iconst (v := 4) C.1 C.2.1 dX16_readField_231 (by decide) ?_
              refine r_cV C X hm hs mlX16_189 mvX16_189 hh (vv := fun r => some (va_rf r.1)) (hp := fun r => r.2) (fun b r hg => c_X16_stop l G h9 b _ r hg) rfl rfl (Nat.le_of_ble_eq_true rfl) (Nat.le_of_ble_eq_true rfl) (Nat.le_of_ble_eq_true rfl) hl.1 dX16_readField_232 (fun b21 r20 H locs hgr20 hh hm hs => ?_)
              refine W.eq (g2 := F0 m 235 ls [va_rf r20.1]) rfl ?_
              exact r_uthrow hQ C hx0 hm hs hh ⟨(Nat.le_of_ble_eq_true rfl), (Nat.le_of_ble_eq_true rfl)⟩ dX16_readField_235
          · rw [if_neg c27] at hh
            refine r_aload_n C.1 C.2.1 dX16_readField_211 rfl (lv_at hl 0 rfl) ?_
            refine lv_iconst (v := 1) C.1 C.2.1 dX16_readField_212 (by decide) ?_
            refine r_cV C X hm hs mlX16_189 mvX16_189 hh (vv := fun r => some (va_rf r.1)) (hp := fun r => r.2) (fun b r hg => c_X16_stop l G h9 b _ r hg) rfl rfl (Nat.le_of_ble_eq_true rfl) (Nat.le_of_ble_eq_true rfl) (Nat.le_of_ble_eq_true rfl) hl.1 dX16_readField_213 (fun b25 r24 H locs hgr24 hh hm hs => ?_)
            refine W.eq (g2 := F0 m 216 ls [va_rf r24.1]) rfl ?_
            exact r_uthrow hQ C hx0 hm hs hh ⟨(Nat.le_of_ble_eq_true rfl), (Nat.le_of_ble_eq_true rfl)⟩ dX16_readField_216
        · rw [if_neg c32] at hh
          refine r_aload_n C.1 C.2.1 dX16_readField_174 rfl (lv_at hl 0 rfl) ?_
          refine lv_iconst (v := 5) C.1 C.2.1 dX16_readField_175 (by decide) ?_
          refine r_cV C X hm hs mlX16_189 mvX16_189 hh (vv := fun r => some (va_rf r.1)) (hp := fun r => r.2) (fun b r hg => c_X16_stop l G h b _ r hg) rfl rfl (Nat.le_of_ble_eq_true rfl) (Nat.le_of_ble_eq_true rfl) (Nat.le_of_ble_eq_true rfl) hl.1 dX16_readField_176 (fun b30 r29 H locs hgr29 hh hm hs => ?_)
          refine W.eq (g2 := F0 m 179 ls [va_rf r29.1]) rfl ?_
          exact r_uthrow hQ C hx0 hm hs hh ⟨(Nat.le_of_ble_eq_true rfl), (Nat.le_of_ble_eq_true rfl)⟩ dX16_readField_179
      · rw [if_neg c36] at hh
        refine lv_iload_n C.1 C.2.1 dX16_readField_147 rfl (lv_at hl 2 rfl) ?_
        refine r_aload_n C.1 C.2.1 dX16_readField_148 rfl (lv_at hl 0 rfl) ?_
        refine r_getR C hm flX16_208 dX16_readField_149 hh (fun x33 _ hh => ?_)
        refine r_getR C hm flX16_235 dX16_readField_152 hh (fun x34 _ hh => ?_)
        refine lv_iload_n C.1 C.2.1 dX16_readField_155 rfl (lv_at hl 3 rfl) ?_
        refine r_ald C hm dX16_readField_156 hh (fun x35 _ hh => ?_)
        refine lv_iconst (v := 1) C.1 C.2.1 dX16_readField_157 (by decide) ?_
        refine lv_iadd C.1 C.2.1 dX16_readField_158 ?_
        refine lv_imul C.1 C.2.1 dX16_readField_159 ?_
        refine lv_istore_n (i := 2) (lv' := [(2, .int (v2 * (x35 + 1))), (0, va_rf (some a0)), (1, .int v1), (3, .int v3)]) C.1 C.2.1 dX16_readField_160 rfl hl (by decide) rfl (fun ls hl => ?_)
        refine lv_iinc (v := (v3 + 1)) (lv' := [(3, .int (v3 + 1)), (2, .int (v2 * (x35 + 1))), (0, va_rf (some a0)), (1, .int v1)]) C.1 C.2.1 dX16_readField_161 hl (k := 3) rfl rfl (by decide) rfl (fun ls hl => ?_)
        refine lv_goto (tgt := 142) C.1 C.2.1 dX16_readField_164 (by decide) ?_
        exact ih _ _ _ _ _ _ _ _  hm hs (lv_sub hl [2, 3, 1, 0] rfl) hh
  unfold mX16_readField at hh
  refine r_aload_n C.1 C.2.1 dX16_readField_0 rfl (lv_at hl 0 rfl) ?_
  refine r_cV C X hm hs mlX16_192 mvX16_192 hh (vv := fun r => none) (hp := fun r => r) (fun b r hg => c_X16_next l G h b  r hg) rfl rfl (Nat.le_of_ble_eq_true rfl) (Nat.le_of_ble_eq_true rfl) (Nat.le_of_ble_eq_true rfl) hl.1 dX16_readField_1 (fun b38 r37 H locs hgr37 hh hm hs => ?_)
  refine W.eq (g2 := F0 m 4 ls []) rfl ?_
  refine r_aload_n C.1 C.2.1 dX16_readField_4 rfl (lv_at hl 0 rfl) ?_
  refine r_cV C X hm hs mlX16_204 mvX16_204 hh (vv := fun r => some (.int r)) (hp := fun r => r37) (fun b r hg => c_X16_isName l G r37 b  r hg) rfl rfl (Nat.le_of_ble_eq_true rfl) (Nat.le_of_ble_eq_true rfl) (Nat.le_of_ble_eq_true rfl) hl.1 dX16_readField_5 (fun b40 r39 H locs hgr39 hh hm hs => ?_)
  refine W.eq (g2 := F0 m 8 ls [.int r39]) rfl ?_
  refine lv_if_ne (tgt := 17) C.1 C.2.1 dX16_readField_8 (by decide) (fun c86 => ?_) (fun c86 => ?_)
  · rw [if_neg c86] at hh
    refine r_aload_n C.1 C.2.1 dX16_readField_17 rfl (lv_at hl 0 rfl) ?_
    refine r_getR C hm flX16_208 dX16_readField_18 hh (fun x41 _ hh => ?_)
    refine r_aload_n C.1 C.2.1 dX16_readField_21 rfl (lv_at hl 0 rfl) ?_
    refine r_getL C hm flX16_158 dX16_readField_22 hh (fun x42 _ hh => ?_)
    refine r_cV C X hm hs mlX16_212 mvX16_212 hh (vv := fun r => some (.int r)) (hp := fun r => r37) (fun b r hg => c_X12_fieldOf l G r37 b _ r hg) rfl rfl (Nat.le_of_ble_eq_true rfl) (Nat.le_of_ble_eq_true rfl) (Nat.le_of_ble_eq_true rfl) hl.1 dX16_readField_25 (fun b44 r43 H locs hgr43 hh hm hs => ?_)
    refine W.eq (g2 := F0 m 28 ls [.int r43]) rfl ?_
    refine lv_iconst (v := (-1)) C.1 C.2.1 dX16_readField_28 (by decide) ?_
    refine lv_icmp_eq (tgt := 38) C.1 C.2.1 dX16_readField_29 (by decide) (fun c82 => ?_) (fun c82 => ?_)
    · rw [if_pos c82] at hh
      refine r_aload_n C.1 C.2.1 dX16_readField_38 rfl (lv_at hl 0 rfl) ?_
      refine r_getR C hm flX16_208 dX16_readField_39 hh (fun x45 _ hh => ?_)
      refine r_getI C hm flX16_218 dX16_readField_42 hh (fun x46 _ hh => ?_)
      refine lv_bipush (v := 6) C.1 C.2.1 dX16_readField_45 (by decide) ?_
      refine lv_icmp_ne (tgt := 56) C.1 C.2.1 dX16_readField_47 (by decide) (fun c78 => ?_) (fun c78 => ?_)
      · rw [if_neg c78] at hh
        refine r_aload_n C.1 C.2.1 dX16_readField_56 rfl (lv_at hl 0 rfl) ?_
        refine r_getR C hm flX16_208 dX16_readField_57 hh (fun x47 _ hh => ?_)
        refine r_getI C hm flX16_218 dX16_readField_60 hh (fun x48 _ hh => ?_)
        refine lv_istore_n (i := 1) (lv' := [(1, .int x48), (0, va_rf (some a0))]) C.1 C.2.1 dX16_readField_63 rfl hl (by decide) (by simp [va_cat, vc_i, vc_l, vc_r]) (fun ls hl => ?_)
        refine r_aload_n C.1 C.2.1 dX16_readField_64 rfl (lv_at hl 1 rfl) ?_
        refine r_getR C hm flX16_208 dX16_readField_65 hh (fun x49 _ hh => ?_)
        refine r_getR C hm flX16_221 dX16_readField_68 hh (fun x50 _ hh => ?_)
        refine lv_iload_n C.1 C.2.1 dX16_readField_71 rfl (lv_at hl 0 rfl) ?_
        refine r_aload_n C.1 C.2.1 dX16_readField_72 rfl (lv_at hl 1 rfl) ?_
        refine r_getL C hm flX16_158 dX16_readField_73 hh (fun x51 _ hh => ?_)
        refine r_last C hm hs dX16_readField_76 hh (fun h52 H locs _ hh hm hs => ?_)
        refine r_aload_n C.1 C.2.1 dX16_readField_77 rfl (lv_at hl 1 rfl) ?_
        refine r_getR C hm flX16_208 dX16_readField_78 hh (fun x53 _ hh => ?_)
        refine lv_dup C.1 C.2.1 dX16_readField_81 (va_cat _) ?_
        refine r_getI C hm flX16_218 dX16_readField_82 hh (fun x54 _ hh => ?_)
        refine lv_iconst (v := 1) C.1 C.2.1 dX16_readField_85 (by decide) ?_
        refine lv_iadd C.1 C.2.1 dX16_readField_86 ?_
        refine r_putI C hm hs flX16_218 (Or.inl fm_13_0) dX16_readField_87 hh (fun h55 H locs _ hh hm hs => ?_)
        refine r_aload_n C.1 C.2.1 dX16_readField_90 rfl (lv_at hl 1 rfl) ?_
        refine r_cV C X hm hs mlX16_192 mvX16_192 hh (vv := fun r => none) (hp := fun r => r) (fun b r hg => c_X16_next l G h55 b  r hg) rfl rfl (Nat.le_of_ble_eq_true rfl) (Nat.le_of_ble_eq_true rfl) (Nat.le_of_ble_eq_true rfl) hl.1 dX16_readField_91 (fun b57 r56 H locs hgr56 hh hm hs => ?_)
        refine W.eq (g2 := F0 m 94 ls []) rfl ?_
        refine r_aload_n C.1 C.2.1 dX16_readField_94 rfl (lv_at hl 1 rfl) ?_
        refine r_ldcS C X (i := 7) (by decide) rfl dX16_readField_95 ?_
        refine r_uV C X hm hs mlX16_227 (in_tbl q_1624 rfl) mvX16_227 hh (vv := (fun _ => none)) (fun b r hg => c_X16_needWord l G r56 b _ r hg) rfl rfl (Nat.le_of_ble_eq_true rfl) (Nat.le_of_ble_eq_true rfl) (Nat.le_of_ble_eq_true rfl) hl.1 ⟨(Nat.le_of_ble_eq_true rfl), (Nat.le_of_ble_eq_true rfl)⟩ dX16_readField_97 (fun q74 b59 h60 ce H locs _ hh hm hs e1 e2 e3 => r_uout hQ C hx0 hm hs e1 e2 e3 hh ⟨(Nat.le_of_ble_eq_true rfl), (Nat.le_of_ble_eq_true rfl)⟩) (fun b59 x61 h60 H locs _ hh hm hs => ?_)
        try dsimp only at hh
        refine W.eq (g2 := F0 m 100 ls []) rfl ?_
        refine r_aload_n C.1 C.2.1 dX16_readField_100 rfl (lv_at hl 1 rfl) ?_
        refine r_getI C hm flX16_148 dX16_readField_101 hh (fun x62 _ hh => ?_)
        refine lv_iconst (v := 3) C.1 C.2.1 dX16_readField_104 (by decide) ?_
        refine lv_icmp_eq (tgt := 114) C.1 C.2.1 dX16_readField_105 (by decide) (fun c73 => ?_) (fun c73 => ?_)
        · rw [if_pos c73] at hh
          refine r_aload_n C.1 C.2.1 dX16_readField_114 rfl (lv_at hl 1 rfl) ?_
          refine r_getI C hm flX16_165 dX16_readField_115 hh (fun x63 _ hh => ?_)
          refine lv_iconst (v := 1) C.1 C.2.1 dX16_readField_118 (by decide) ?_
          refine lv_bipush (v := 9) C.1 C.2.1 dX16_readField_119 (by decide) ?_
          refine r_cS C X hm hs mlX16_231 msX16_231 hh (vv := fun r => some (.int r)) (hp := fun r => h60) (fun r hg => c_X16_in l G h60 _ _ _ r hg) rfl rfl (Nat.le_of_ble_eq_true rfl) (Nat.le_of_ble_eq_true rfl) (Nat.le_of_ble_eq_true rfl) hl.1 dX16_readField_121 (fun r64 H locs hgr64 hh hm hs => ?_)
          refine W.eq (g2 := F0 m 124 ls [.int r64]) rfl ?_
          refine lv_if_ne (tgt := 133) C.1 C.2.1 dX16_readField_124 (by decide) (fun c69 => ?_) (fun c69 => ?_)
          · rw [if_neg c69] at hh
            refine r_aload_n C.1 C.2.1 dX16_readField_133 rfl (lv_at hl 1 rfl) ?_
            refine r_getI C hm flX16_165 dX16_readField_134 hh (fun x65 _ hh => ?_)
            refine lv_iconst (v := 1) C.1 C.2.1 dX16_readField_137 (by decide) ?_
            refine lv_iadd C.1 C.2.1 dX16_readField_138 ?_
            refine lv_istore_n (i := 2) (lv' := [(2, .int (x65 + 1)), (1, .int x48), (0, va_rf (some a0))]) C.1 C.2.1 dX16_readField_139 rfl hl (by decide) rfl (fun ls hl => ?_)
            refine lv_iconst (v := 0) C.1 C.2.1 dX16_readField_140 (by decide) ?_
            refine lv_istore_n (i := 3) (lv' := [(3, .int 0), (2, .int (x65 + 1)), (1, .int x48), (0, va_rf (some a0))]) C.1 C.2.1 dX16_readField_141 rfl hl (by decide) rfl (fun ls hl => ?_)
            exact B142 FUEL _ _ _ _ _ _ _ _  hm hs (lv_sub hl [3, 2, 1, 0] rfl) hh
          · rw [if_pos c69] at hh
            refine r_aload_n C.1 C.2.1 dX16_readField_127 rfl (lv_at hl 1 rfl) ?_
            refine lv_iconst (v := 4) C.1 C.2.1 dX16_readField_128 (by decide) ?_
            refine r_cV C X hm hs mlX16_189 mvX16_189 hh (vv := fun r => some (va_rf r.1)) (hp := fun r => r.2) (fun b r hg => c_X16_stop l G h60 b _ r hg) rfl rfl (Nat.le_of_ble_eq_true rfl) (Nat.le_of_ble_eq_true rfl) (Nat.le_of_ble_eq_true rfl) hl.1 dX16_readField_129 (fun b67 r66 H locs hgr66 hh hm hs => ?_)
            refine W.eq (g2 := F0 m 132 ls [va_rf r66.1]) rfl ?_
            exact r_uthrow hQ C hx0 hm hs hh ⟨(Nat.le_of_ble_eq_true rfl), (Nat.le_of_ble_eq_true rfl)⟩ dX16_readField_132
        · rw [if_neg c73] at hh
          refine r_aload_n C.1 C.2.1 dX16_readField_108 rfl (lv_at hl 1 rfl) ?_
          refine lv_iconst (v := 1) C.1 C.2.1 dX16_readField_109 (by decide) ?_
          refine r_cV C X hm hs mlX16_189 mvX16_189 hh (vv := fun r => some (va_rf r.1)) (hp := fun r => r.2) (fun b r hg => c_X16_stop l G h60 b _ r hg) rfl rfl (Nat.le_of_ble_eq_true rfl) (Nat.le_of_ble_eq_true rfl) (Nat.le_of_ble_eq_true rfl) hl.1 dX16_readField_110 (fun b71 r70 H locs hgr70 hh hm hs => ?_)
          refine W.eq (g2 := F0 m 113 ls [va_rf r70.1]) rfl ?_
          exact r_uthrow hQ C hx0 hm hs hh ⟨(Nat.le_of_ble_eq_true rfl), (Nat.le_of_ble_eq_true rfl)⟩ dX16_readField_113
      · rw [if_pos c78] at hh
        refine r_aload_n C.1 C.2.1 dX16_readField_50 rfl (lv_at hl 0 rfl) ?_
        refine lv_iconst (v := 5) C.1 C.2.1 dX16_readField_51 (by decide) ?_
        refine r_cV C X hm hs mlX16_189 mvX16_189 hh (vv := fun r => some (va_rf r.1)) (hp := fun r => r.2) (fun b r hg => c_X16_stop l G r37 b _ r hg) rfl rfl (Nat.le_of_ble_eq_true rfl) (Nat.le_of_ble_eq_true rfl) (Nat.le_of_ble_eq_true rfl) hl.1 dX16_readField_52 (fun b76 r75 H locs hgr75 hh hm hs => ?_)
        refine W.eq (g2 := F0 m 55 ls [va_rf r75.1]) rfl ?_
        exact r_uthrow hQ C hx0 hm hs hh ⟨(Nat.le_of_ble_eq_true rfl), (Nat.le_of_ble_eq_true rfl)⟩ dX16_readField_55
    · rw [if_neg c82] at hh
      refine r_aload_n C.1 C.2.1 dX16_readField_32 rfl (lv_at hl 0 rfl) ?_
      refine lv_iconst (v := 3) C.1 C.2.1 dX16_readField_33 (by decide) ?_
      refine r_cV C X hm hs mlX16_189 mvX16_189 hh (vv := fun r => some (va_rf r.1)) (hp := fun r => r.2) (fun b r hg => c_X16_stop l G r37 b _ r hg) rfl rfl (Nat.le_of_ble_eq_true rfl) (Nat.le_of_ble_eq_true rfl) (Nat.le_of_ble_eq_true rfl) hl.1 dX16_readField_34 (fun b80 r79 H locs hgr79 hh hm hs => ?_)
      refine W.eq (g2 := F0 m 37 ls [va_rf r79.1]) rfl ?_
      exact r_uthrow hQ C hx0 hm hs hh ⟨(Nat.le_of_ble_eq_true rfl), (Nat.le_of_ble_eq_true rfl)⟩ dX16_readField_37
  · rw [if_pos c86] at hh
    refine r_aload_n C.1 C.2.1 dX16_readField_11 rfl (lv_at hl 0 rfl) ?_
    refine lv_iconst (v := 1) C.1 C.2.1 dX16_readField_12 (by decide) ?_
    refine r_cV C X hm hs mlX16_189 mvX16_189 hh (vv := fun r => some (va_rf r.1)) (hp := fun r => r.2) (fun b r hg => c_X16_stop l G r37 b _ r hg) rfl rfl (Nat.le_of_ble_eq_true rfl) (Nat.le_of_ble_eq_true rfl) (Nat.le_of_ble_eq_true rfl) hl.1 dX16_readField_13 (fun b84 r83 H locs hgr83 hh hm hs => ?_)
    refine W.eq (g2 := F0 m 16 ls [va_rf r83.1]) rfl ?_
    exact r_uthrow hQ C hx0 hm hs hh ⟨(Nat.le_of_ble_eq_true rfl), (Nat.le_of_ble_eq_true rfl)⟩ dX16_readField_16
def mX16_readName (h : MHp) (a0 : Nat) (a1 : Option Nat) : Option ((Int32 ⊕ Nat) × MHp) := (rcv 17 h (some a0)).bind fun b2 => (mX16_isName h b2).bind fun r1 => (if r1 = 0 then (rcv 17 h (some a0)).bind fun b11 => (mX16_stop h b11 1).bind fun r10 => (rcv 14 r10.2 r10.1).bind fun q12 => some (Sum.inr q12, r10.2) else (gL 17 17 h (some a0)).bind fun x3 => (rcv 13 h a1).bind fun b5 => (mX12_fieldOf h b5 x3).bind fun r4 => (if r4 = (-1) then (rcv 17 h (some a0)).bind fun b7 => (mX16_stop h b7 2).bind fun r6 => (rcv 14 r6.2 r6.1).bind fun q8 => some (Sum.inr q8, r6.2) else some (Sum.inl r4, h)))
set_option maxRecDepth 100000 in
set_option maxHeartbeats 4000000 in
theorem c_X16_readName (l : Launch) (G : Env0) (h : MHp) (a0 : Nat) (a1 : Option Nat) (res : (Int32 ⊕ Nat) × MHp) (hh : mX16_readName h a0 a1 = some res) : UG l yX16_readName cX16_readName 3 (some .int) 7 149 0 0 G h [.ref a0, va_rf a1] (fun v => some (.int v)) res := by
  refine UG_of (own := RX16) (by decide) rfl (by simp [lg_sl, va_cat, vc_i, vc_l, vc_r]) ?_
  intro p e s m args below meth c Q ls hQ C X hx0 hm hs hl hr
  have hl : lv_has ls 3 [(0, .ref a0), (1, va_rf a1)] := by simpa [lv_args, va_cat, vc_i, vc_l, vc_r] using hl
  have hl : lv_has ls 3 [(0, va_rf (some a0)), (1, va_rf a1)] := hl
  unfold mX16_readName at hh
  refine r_aload_n C.1 C.2.1 dX16_readName_0 rfl (lv_at hl 0 rfl) ?_
  refine r_cV C X hm hs mlX16_204 mvX16_204 hh (vv := fun r => some (.int r)) (hp := fun r => h) (fun b r hg => c_X16_isName l G h b  r hg) rfl rfl (Nat.le_of_ble_eq_true rfl) (Nat.le_of_ble_eq_true rfl) (Nat.le_of_ble_eq_true rfl) hl.1 dX16_readName_1 (fun b2 r1 H locs hgr1 hh hm hs => ?_)
  refine W.eq (g2 := F0 m 4 ls [.int r1]) rfl ?_
  refine lv_if_ne (tgt := 13) C.1 C.2.1 dX16_readName_4 (by decide) (fun c13 => ?_) (fun c13 => ?_)
  · rw [if_neg c13] at hh
    refine r_aload_n C.1 C.2.1 dX16_readName_13 rfl (lv_at hl 1 rfl) ?_
    refine r_aload_n C.1 C.2.1 dX16_readName_14 rfl (lv_at hl 0 rfl) ?_
    refine r_getL C hm flX16_158 dX16_readName_15 hh (fun x3 _ hh => ?_)
    refine r_cV C X hm hs mlX16_212 mvX16_212 hh (vv := fun r => some (.int r)) (hp := fun r => h) (fun b r hg => c_X12_fieldOf l G h b _ r hg) rfl rfl (Nat.le_of_ble_eq_true rfl) (Nat.le_of_ble_eq_true rfl) (Nat.le_of_ble_eq_true rfl) hl.1 dX16_readName_18 (fun b5 r4 H locs hgr4 hh hm hs => ?_)
    refine W.eq (g2 := F0 m 21 ls [.int r4]) rfl ?_
    refine lv_istore_n (i := 2) (lv' := [(2, .int r4), (0, va_rf (some a0)), (1, va_rf a1)]) C.1 C.2.1 dX16_readName_21 rfl hl (by decide) (by simp [va_cat, vc_i, vc_l, vc_r]) (fun ls hl => ?_)
    refine lv_iload_n C.1 C.2.1 dX16_readName_22 rfl (lv_at hl 0 rfl) ?_
    refine lv_iconst (v := (-1)) C.1 C.2.1 dX16_readName_23 (by decide) ?_
    refine lv_icmp_ne (tgt := 33) C.1 C.2.1 dX16_readName_24 (by decide) (fun c9 => ?_) (fun c9 => ?_)
    · rw [if_neg c9] at hh
      refine lv_iload_n C.1 C.2.1 dX16_readName_33 rfl (lv_at hl 0 rfl) ?_
      exact r_uretI hQ C hr hm hs hh dX16_readName_34
    · rw [if_pos c9] at hh
      refine r_aload_n C.1 C.2.1 dX16_readName_27 rfl (lv_at hl 1 rfl) ?_
      refine lv_iconst (v := 2) C.1 C.2.1 dX16_readName_28 (by decide) ?_
      refine r_cV C X hm hs mlX16_189 mvX16_189 hh (vv := fun r => some (va_rf r.1)) (hp := fun r => r.2) (fun b r hg => c_X16_stop l G h b _ r hg) rfl rfl (Nat.le_of_ble_eq_true rfl) (Nat.le_of_ble_eq_true rfl) (Nat.le_of_ble_eq_true rfl) hl.1 dX16_readName_29 (fun b7 r6 H locs hgr6 hh hm hs => ?_)
      refine W.eq (g2 := F0 m 32 ls [va_rf r6.1]) rfl ?_
      exact r_uthrow hQ C hx0 hm hs hh ⟨(Nat.le_of_ble_eq_true rfl), (Nat.le_of_ble_eq_true rfl)⟩ dX16_readName_32
  · rw [if_pos c13] at hh
    refine r_aload_n C.1 C.2.1 dX16_readName_7 rfl (lv_at hl 0 rfl) ?_
    refine lv_iconst (v := 1) C.1 C.2.1 dX16_readName_8 (by decide) ?_
    refine r_cV C X hm hs mlX16_189 mvX16_189 hh (vv := fun r => some (va_rf r.1)) (hp := fun r => r.2) (fun b r hg => c_X16_stop l G h b _ r hg) rfl rfl (Nat.le_of_ble_eq_true rfl) (Nat.le_of_ble_eq_true rfl) (Nat.le_of_ble_eq_true rfl) hl.1 dX16_readName_9 (fun b11 r10 H locs hgr10 hh hm hs => ?_)
    refine W.eq (g2 := F0 m 12 ls [va_rf r10.1]) rfl ?_
    exact r_uthrow hQ C hx0 hm hs hh ⟨(Nat.le_of_ble_eq_true rfl), (Nat.le_of_ble_eq_true rfl)⟩ dX16_readName_12
def mX16_readTest_b193 (k10 : MHp → Nat → Option Nat → Option Nat → Int32 → Option ((Option Nat ⊕ Nat) × MHp)) (h : MHp) (a0 : Nat) (v1 : Option Nat) (v2 : Option Nat) (v3 : Int32) : Option ((Option Nat ⊕ Nat) × MHp) := k10 h a0 v1 v2 v3
def mX16_readTest_b164 (k10 : MHp → Nat → Option Nat → Option Nat → Int32 → Option ((Option Nat ⊕ Nat) × MHp)) (h : MHp) (a0 : Nat) (v1 : Option Nat) (v2 : Option Nat) : Option ((Option Nat ⊕ Nat) × MHp) := (gI 16 0 h v2).bind fun x1 => (pI 16 0 h v2 (x1 + 1)).bind fun h2 => (rcv 17 h2 (some a0)).bind fun b4 => (mX16_next h2 b4).bind fun r3 => (rcv 17 r3 (some a0)).bind fun b6 => (mX16_isWord r3 b6 2).bind fun r5 => (if r5 = 0 then mX16_readTest_b193 k10 r3 a0 v1 v2 r5 else (rcv 17 r3 (some a0)).bind fun b8 => (mX16_next r3 b8).bind fun r7 => mX16_readTest_b193 k10 r7 a0 v1 v2 r5)
def mX16_readTest_b84 (k10 : MHp → Nat → Option Nat → Option Nat → Int32 → Option ((Option Nat ⊕ Nat) × MHp)) (h : MHp) (a0 : Nat) (v1 : Option Nat) (v2 : Option Nat) : Option ((Option Nat ⊕ Nat) × MHp) := (gR 16 2 h v2).bind fun x10 => (gI 16 0 h v2).bind fun x11 => (gI 17 15 h (some a0)).bind fun x12 => (pAI 20 h x10 x11 x12).bind fun h13 => (rcv 17 h13 (some a0)).bind fun b15 => (mX16_next h13 b15).bind fun r14 => (gI 17 13 r14 (some a0)).bind fun x16 => (if x16 = 3 then (gI 17 16 r14 (some a0)).bind fun x28 => (if x28 ≤ 99 then (gR 16 3 r14 v2).bind fun x29 => (gI 16 0 r14 v2).bind fun x30 => (gI 17 16 r14 (some a0)).bind fun x31 => (pAI 20 r14 x29 x30 x31).bind fun h32 => mX16_readTest_b164 k10 h32 a0 v1 v2 else (rcv 17 r14 (some a0)).bind fun b34 => (mX16_stop r14 b34 4).bind fun r33 => (rcv 14 r33.2 r33.1).bind fun q35 => some (Sum.inr q35, r33.2)) else (gR 16 3 r14 v2).bind fun x17 => (gI 16 0 r14 v2).bind fun x18 => (rcv 17 r14 (some a0)).bind fun b20 => (mX16_readName r14 b20 v1).bind fun r19 => (match r19 with | (Sum.inl x22, h21) => (pAI 20 h21 x17 x18 x22).bind fun h23 => (gR 16 4 h23 v2).bind fun x24 => (gI 16 0 h23 v2).bind fun x25 => (pAI 23 h23 x24 x25 1).bind fun h26 => mX16_readTest_b164 k10 h26 a0 v1 v2 | (Sum.inr q27, h21) => some (Sum.inr q27, h21)))
def mX16_readTest_l10 : Nat → MHp → Nat → Option Nat → Option Nat → Int32 → Option ((Option Nat ⊕ Nat) × MHp)
  | 0, _, _, _, _, _ => none
  | n + 1, h, a0, v1, v2, v3 => (if v3 = 0 then some (Sum.inl v2, h) else (rcv 17 h (some a0)).bind fun b39 => (mX16_readName h b39 v1).bind fun r38 => (match r38 with | (Sum.inl x41, h40) => (gI 16 0 h40 v2).bind fun x42 => (if x42 = 12 then (rcv 17 h40 (some a0)).bind fun b61 => (mX16_stop h40 b61 5).bind fun r60 => (rcv 14 r60.2 r60.1).bind fun q62 => some (Sum.inr q62, r60.2) else (gR 16 1 h40 v2).bind fun x43 => (gI 16 0 h40 v2).bind fun x44 => (pAI 20 h40 x43 x44 x41).bind fun h45 => (rcv 17 h45 (some a0)).bind fun b47 => (mX16_next h45 b47).bind fun r46 => (rcv 17 r46 (some a0)).bind fun b49 => (mX16_is r46 b49 61).bind fun r48 => (if r48 = 0 then (rcv 17 r46 (some a0)).bind fun b51 => (mX16_is r46 b51 60).bind fun r50 => (if r50 = 0 then (rcv 17 r46 (some a0)).bind fun b53 => (mX16_is r46 b53 62).bind fun r52 => (if r52 = 0 then (rcv 17 r46 (some a0)).bind fun b55 => (mX16_stop r46 b55 1).bind fun r54 => (rcv 14 r54.2 r54.1).bind fun q56 => some (Sum.inr q56, r54.2) else mX16_readTest_b84 (mX16_readTest_l10 n) r46 a0 v1 v2) else mX16_readTest_b84 (mX16_readTest_l10 n) r46 a0 v1 v2) else mX16_readTest_b84 (mX16_readTest_l10 n) r46 a0 v1 v2)) | (Sum.inr q64, h40) => some (Sum.inr q64, h40)))
def mX16_readTest (h : MHp) (a0 : Nat) (a1 : Option Nat) : Option ((Option Nat ⊕ Nat) × MHp) := (some (nO h 16 5)).bind fun h66 => (mX15_init h66 (hS h)).bind fun r67 => mX16_readTest_l10 FUEL r67 a0 a1 (some (hS h)) 1
set_option maxRecDepth 100000 in
set_option maxHeartbeats 4000000 in
theorem c_X16_readTest (l : Launch) (G : Env0) (h : MHp) (a0 : Nat) (a1 : Option Nat) (res : (Option Nat ⊕ Nat) × MHp) (hh : mX16_readTest h a0 a1 = some res) : UG l yX16_readTest cX16_readTest 5 (some (.object "CountOfficeModel$Test")) 8 171 5 53 G h [.ref a0, va_rf a1] (fun v => some (va_rf v)) res := by
  refine UG_of (own := RX16) (by decide) rfl (by simp [lg_sl, va_cat, vc_i, vc_l, vc_r]) ?_
  intro p e s m args below meth c Q ls hQ C X hx0 hm hs hl hr
  have hl : lv_has ls 5 [(0, .ref a0), (1, va_rf a1)] := by simpa [lv_args, va_cat, vc_i, vc_l, vc_r] using hl
  have hl : lv_has ls 5 [(0, va_rf (some a0)), (1, va_rf a1)] := hl
  have B193 : ∀ (k10 : MHp → Nat → Option Nat → Option Nat → Int32 → Option ((Option Nat ⊕ Nat) × MHp)), (∀ (h : MHp) (H : Heap) (locs : List Loc) (ls : Array Slot) (a0 : Nat) (v1 : Option Nat) (v2 : Option Nat) (v3 : Int32) , mHp (gD G) (gC G) (gB G) h H → va_S (fun q => gB G ≤ q) s.heap H locs → lv_has ls 5 [(0, va_rf (some a0)), (1, va_rf v1), (2, va_rf v2), (3, .int v3)] → k10 h a0 v1 v2 v3 = some res → W p l e ({ frames := 8, cells := 5, slots := 53, locals := 171 }) s m args below meth c H locs 5 53 Q (F0 m 10 ls [])) → ∀ (h : MHp) (H : Heap) (locs : List Loc) (ls : Array Slot) (a0 : Nat) (v1 : Option Nat) (v2 : Option Nat) (v3 : Int32) , mHp (gD G) (gC G) (gB G) h H → va_S (fun q => gB G ≤ q) s.heap H locs → lv_has ls 5 [(0, va_rf (some a0)), (1, va_rf v1), (2, va_rf v2), (3, .int v3)] → mX16_readTest_b193 k10 h a0 v1 v2 v3 = some res → W p l e ({ frames := 8, cells := 5, slots := 53, locals := 171 }) s m args below meth c H locs 5 53 Q (F0 m 193 ls []) := by
    intro k10 hk10 h H locs ls a0 v1 v2 v3 hm hs hl hh
    unfold mX16_readTest_b193 at hh
    refine lv_goto (tgt := 10) C.1 C.2.1 dX16_readTest_193 (by decide) ?_
    exact hk10 _ _ _ _ _ _ _ _  hm hs (lv_sub hl [0, 1, 2, 3] rfl) hh
  have B164 : ∀ (k10 : MHp → Nat → Option Nat → Option Nat → Int32 → Option ((Option Nat ⊕ Nat) × MHp)), (∀ (h : MHp) (H : Heap) (locs : List Loc) (ls : Array Slot) (a0 : Nat) (v1 : Option Nat) (v2 : Option Nat) (v3 : Int32) , mHp (gD G) (gC G) (gB G) h H → va_S (fun q => gB G ≤ q) s.heap H locs → lv_has ls 5 [(0, va_rf (some a0)), (1, va_rf v1), (2, va_rf v2), (3, .int v3)] → k10 h a0 v1 v2 v3 = some res → W p l e ({ frames := 8, cells := 5, slots := 53, locals := 171 }) s m args below meth c H locs 5 53 Q (F0 m 10 ls [])) → ∀ (h : MHp) (H : Heap) (locs : List Loc) (ls : Array Slot) (a0 : Nat) (v1 : Option Nat) (v2 : Option Nat) , mHp (gD G) (gC G) (gB G) h H → va_S (fun q => gB G ≤ q) s.heap H locs → lv_has ls 5 [(0, va_rf (some a0)), (1, va_rf v1), (2, va_rf v2)] → mX16_readTest_b164 k10 h a0 v1 v2 = some res → W p l e ({ frames := 8, cells := 5, slots := 53, locals := 171 }) s m args below meth c H locs 5 53 Q (F0 m 164 ls []) := by
    intro k10 hk10 h H locs ls a0 v1 v2 hm hs hl hh
    unfold mX16_readTest_b164 at hh
    refine r_aload_n C.1 C.2.1 dX16_readTest_164 rfl (lv_at hl 2 rfl) ?_
    refine lv_dup C.1 C.2.1 dX16_readTest_165 (va_cat _) ?_
    refine r_getI C hm flX16_258 dX16_readTest_166 hh (fun x1 _ hh => ?_)
    refine lv_iconst (v := 1) C.1 C.2.1 dX16_readTest_169 (by decide) ?_
    refine lv_iadd C.1 C.2.1 dX16_readTest_170 ?_
    refine r_putI C hm hs flX16_258 (Or.inl fm_16_0) dX16_readTest_171 hh (fun h2 H locs _ hh hm hs => ?_)
    refine r_aload_n C.1 C.2.1 dX16_readTest_174 rfl (lv_at hl 0 rfl) ?_
    refine r_cV (hroom := ⟨(Nat.le_of_ble_eq_true rfl), (Nat.le_of_ble_eq_true rfl)⟩) C X hm hs mlX16_192 mvX16_192 hh (vv := fun r => none) (hp := fun r => r) (fun b r hg => c_X16_next l G h2 b  r hg) rfl rfl (Nat.le_of_ble_eq_true rfl) (Nat.le_of_ble_eq_true rfl) (Nat.le_of_ble_eq_true rfl) hl.1 dX16_readTest_175 (fun b4 r3 H locs hgr3 hh hm hs => ?_)
    refine W.eq (g2 := F0 m 178 ls []) rfl ?_
    refine r_aload_n C.1 C.2.1 dX16_readTest_178 rfl (lv_at hl 0 rfl) ?_
    refine r_ldcS C X (i := 2) (by decide) rfl dX16_readTest_179 ?_
    refine r_cV (hroom := ⟨(Nat.le_of_ble_eq_true rfl), (Nat.le_of_ble_eq_true rfl)⟩) C X hm hs mlX16_174 mvX16_174 hh (vv := fun r => some (.int r)) (hp := fun r => r3) (fun b r hg => c_X16_isWord l G r3 b _ r hg) rfl rfl (Nat.le_of_ble_eq_true rfl) (Nat.le_of_ble_eq_true rfl) (Nat.le_of_ble_eq_true rfl) hl.1 dX16_readTest_181 (fun b6 r5 H locs hgr5 hh hm hs => ?_)
    refine W.eq (g2 := F0 m 184 ls [.int r5]) rfl ?_
    refine lv_istore_n (i := 3) (lv' := [(3, .int r5), (0, va_rf (some a0)), (1, va_rf v1), (2, va_rf v2)]) C.1 C.2.1 dX16_readTest_184 rfl hl (by decide) (by simp [va_cat, vc_i, vc_l, vc_r]) (fun ls hl => ?_)
    refine lv_iload_n C.1 C.2.1 dX16_readTest_185 rfl (lv_at hl 0 rfl) ?_
    refine lv_if_eq (tgt := 193) C.1 C.2.1 dX16_readTest_186 (by decide) (fun c9 => ?_) (fun c9 => ?_)
    · rw [if_pos c9] at hh
      exact B193 _ hk10 _ _ _ _ _ _ _ _  hm hs (lv_sub hl [1, 2, 3, 0] rfl) hh
    · rw [if_neg c9] at hh
      refine r_aload_n C.1 C.2.1 dX16_readTest_189 rfl (lv_at hl 1 rfl) ?_
      refine r_cV (hroom := ⟨(Nat.le_of_ble_eq_true rfl), (Nat.le_of_ble_eq_true rfl)⟩) C X hm hs mlX16_192 mvX16_192 hh (vv := fun r => none) (hp := fun r => r) (fun b r hg => c_X16_next l G r3 b  r hg) rfl rfl (Nat.le_of_ble_eq_true rfl) (Nat.le_of_ble_eq_true rfl) (Nat.le_of_ble_eq_true rfl) hl.1 dX16_readTest_190 (fun b8 r7 H locs hgr7 hh hm hs => ?_)
      refine W.eq (g2 := F0 m 193 ls []) rfl ?_
      exact B193 _ hk10 _ _ _ _ _ _ _ _  hm hs (lv_sub hl [1, 2, 3, 0] rfl) hh
  have B84 : ∀ (k10 : MHp → Nat → Option Nat → Option Nat → Int32 → Option ((Option Nat ⊕ Nat) × MHp)), (∀ (h : MHp) (H : Heap) (locs : List Loc) (ls : Array Slot) (a0 : Nat) (v1 : Option Nat) (v2 : Option Nat) (v3 : Int32) , mHp (gD G) (gC G) (gB G) h H → va_S (fun q => gB G ≤ q) s.heap H locs → lv_has ls 5 [(0, va_rf (some a0)), (1, va_rf v1), (2, va_rf v2), (3, .int v3)] → k10 h a0 v1 v2 v3 = some res → W p l e ({ frames := 8, cells := 5, slots := 53, locals := 171 }) s m args below meth c H locs 5 53 Q (F0 m 10 ls [])) → ∀ (h : MHp) (H : Heap) (locs : List Loc) (ls : Array Slot) (a0 : Nat) (v1 : Option Nat) (v2 : Option Nat) , mHp (gD G) (gC G) (gB G) h H → va_S (fun q => gB G ≤ q) s.heap H locs → lv_has ls 5 [(0, va_rf (some a0)), (1, va_rf v1), (2, va_rf v2)] → mX16_readTest_b84 k10 h a0 v1 v2 = some res → W p l e ({ frames := 8, cells := 5, slots := 53, locals := 171 }) s m args below meth c H locs 5 53 Q (F0 m 84 ls []) := by
    intro k10 hk10 h H locs ls a0 v1 v2 hm hs hl hh
    unfold mX16_readTest_b84 at hh
    refine r_aload_n C.1 C.2.1 dX16_readTest_84 rfl (lv_at hl 2 rfl) ?_
    refine r_getR C hm flX16_263 dX16_readTest_85 hh (fun x10 _ hh => ?_)
    refine r_aload_n C.1 C.2.1 dX16_readTest_88 rfl (lv_at hl 2 rfl) ?_
    refine r_getI C hm flX16_258 dX16_readTest_89 hh (fun x11 _ hh => ?_)
    refine r_aload_n C.1 C.2.1 dX16_readTest_92 rfl (lv_at hl 0 rfl) ?_
    refine r_getI C hm flX16_151 dX16_readTest_93 hh (fun x12 _ hh => ?_)
    refine r_ast C hm hs dX16_readTest_96 hh (fun h13 H locs _ hh hm hs => ?_)
    refine r_aload_n C.1 C.2.1 dX16_readTest_97 rfl (lv_at hl 0 rfl) ?_
    refine r_cV (hroom := ⟨(Nat.le_of_ble_eq_true rfl), (Nat.le_of_ble_eq_true rfl)⟩) C X hm hs mlX16_192 mvX16_192 hh (vv := fun r => none) (hp := fun r => r) (fun b r hg => c_X16_next l G h13 b  r hg) rfl rfl (Nat.le_of_ble_eq_true rfl) (Nat.le_of_ble_eq_true rfl) (Nat.le_of_ble_eq_true rfl) hl.1 dX16_readTest_98 (fun b15 r14 H locs hgr14 hh hm hs => ?_)
    refine W.eq (g2 := F0 m 101 ls []) rfl ?_
    refine r_aload_n C.1 C.2.1 dX16_readTest_101 rfl (lv_at hl 0 rfl) ?_
    refine r_getI C hm flX16_148 dX16_readTest_102 hh (fun x16 _ hh => ?_)
    refine lv_iconst (v := 3) C.1 C.2.1 dX16_readTest_105 (by decide) ?_
    refine lv_icmp_ne (tgt := 140) C.1 C.2.1 dX16_readTest_106 (by decide) (fun c37 => ?_) (fun c37 => ?_)
    · rw [if_neg c37] at hh
      refine r_aload_n C.1 C.2.1 dX16_readTest_140 rfl (lv_at hl 2 rfl) ?_
      refine r_getR C hm flX16_266 dX16_readTest_141 hh (fun x17 _ hh => ?_)
      refine r_aload_n C.1 C.2.1 dX16_readTest_144 rfl (lv_at hl 2 rfl) ?_
      refine r_getI C hm flX16_258 dX16_readTest_145 hh (fun x18 _ hh => ?_)
      refine r_aload_n C.1 C.2.1 dX16_readTest_148 rfl (lv_at hl 0 rfl) ?_
      refine r_aload_n C.1 C.2.1 dX16_readTest_149 rfl (lv_at hl 1 rfl) ?_
      refine r_uV C X hm hs mlX16_254 (in_tbl q_1668 rfl) mvX16_254 hh (vv := (fun v => some (.int v))) (fun b r hg => c_X16_readName l G r14 b _ r hg) rfl rfl (by simp [va_cat, vc_i, vc_l, vc_r]) (Nat.le_of_ble_eq_true rfl) (Nat.le_of_ble_eq_true rfl) hl.1 ⟨(Nat.le_of_ble_eq_true rfl), (Nat.le_of_ble_eq_true rfl)⟩ dX16_readTest_150 (fun q27 b20 h21 ce H locs _ hh hm hs e1 e2 e3 => r_uout hQ C hx0 hm hs e1 e2 e3 hh ⟨(Nat.le_of_ble_eq_true rfl), (Nat.le_of_ble_eq_true rfl)⟩) (fun b20 x22 h21 H locs _ hh hm hs => ?_)
      try dsimp only at hh
      refine W.eq (g2 := F0 m 153 ls [.int x22, .int x18, va_rf x17]) rfl ?_
      refine r_ast C hm hs dX16_readTest_153 hh (fun h23 H locs _ hh hm hs => ?_)
      refine r_aload_n C.1 C.2.1 dX16_readTest_154 rfl (lv_at hl 2 rfl) ?_
      refine r_getR C hm flX16_269 dX16_readTest_155 hh (fun x24 _ hh => ?_)
      refine r_aload_n C.1 C.2.1 dX16_readTest_158 rfl (lv_at hl 2 rfl) ?_
      refine r_getI C hm flX16_258 dX16_readTest_159 hh (fun x25 _ hh => ?_)
      refine lv_iconst (v := 1) C.1 C.2.1 dX16_readTest_162 (by decide) ?_
      refine r_zast1 C hm hs dX16_readTest_163 hh (fun h26 H locs _ hh hm hs => ?_)
      exact B164 _ hk10 _ _ _ _ _ _ _  hm hs (lv_sub hl [0, 1, 2] rfl) hh
    · rw [if_pos c37] at hh
      refine r_aload_n C.1 C.2.1 dX16_readTest_109 rfl (lv_at hl 0 rfl) ?_
      refine r_getI C hm flX16_165 dX16_readTest_110 hh (fun x28 _ hh => ?_)
      refine lv_bipush (v := 99) C.1 C.2.1 dX16_readTest_113 (by decide) ?_
      refine lv_icmp_le (tgt := 124) C.1 C.2.1 dX16_readTest_115 (by decide) (fun c36 => ?_) (fun c36 => ?_)
      · rw [if_pos c36] at hh
        refine r_aload_n C.1 C.2.1 dX16_readTest_124 rfl (lv_at hl 2 rfl) ?_
        refine r_getR C hm flX16_266 dX16_readTest_125 hh (fun x29 _ hh => ?_)
        refine r_aload_n C.1 C.2.1 dX16_readTest_128 rfl (lv_at hl 2 rfl) ?_
        refine r_getI C hm flX16_258 dX16_readTest_129 hh (fun x30 _ hh => ?_)
        refine r_aload_n C.1 C.2.1 dX16_readTest_132 rfl (lv_at hl 0 rfl) ?_
        refine r_getI C hm flX16_165 dX16_readTest_133 hh (fun x31 _ hh => ?_)
        refine r_ast C hm hs dX16_readTest_136 hh (fun h32 H locs _ hh hm hs => ?_)
        refine lv_goto (tgt := 164) C.1 C.2.1 dX16_readTest_137 (by decide) ?_
        exact B164 _ hk10 _ _ _ _ _ _ _  hm hs (lv_sub hl [0, 1, 2] rfl) hh
      · rw [if_neg c36] at hh
        refine r_aload_n C.1 C.2.1 dX16_readTest_118 rfl (lv_at hl 0 rfl) ?_
        refine lv_iconst (v := 4) C.1 C.2.1 dX16_readTest_119 (by decide) ?_
        refine r_cV (hroom := ⟨(Nat.le_of_ble_eq_true rfl), (Nat.le_of_ble_eq_true rfl)⟩) C X hm hs mlX16_189 mvX16_189 hh (vv := fun r => some (va_rf r.1)) (hp := fun r => r.2) (fun b r hg => c_X16_stop l G r14 b _ r hg) rfl rfl (Nat.le_of_ble_eq_true rfl) (Nat.le_of_ble_eq_true rfl) (Nat.le_of_ble_eq_true rfl) hl.1 dX16_readTest_120 (fun b34 r33 H locs hgr33 hh hm hs => ?_)
        refine W.eq (g2 := F0 m 123 ls [va_rf r33.1]) rfl ?_
        exact r_uthrow hQ C hx0 hm hs hh ⟨(Nat.le_of_ble_eq_true rfl), (Nat.le_of_ble_eq_true rfl)⟩ dX16_readTest_123
  have B10 : ∀ n : Nat, ∀ (h : MHp) (H : Heap) (locs : List Loc) (ls : Array Slot) (a0 : Nat) (v1 : Option Nat) (v2 : Option Nat) (v3 : Int32) , mHp (gD G) (gC G) (gB G) h H → va_S (fun q => gB G ≤ q) s.heap H locs → lv_has ls 5 [(0, va_rf (some a0)), (1, va_rf v1), (2, va_rf v2), (3, .int v3)] → mX16_readTest_l10 n h a0 v1 v2 v3 = some res → W p l e ({ frames := 8, cells := 5, slots := 53, locals := 171 }) s m args below meth c H locs 5 53 Q (F0 m 10 ls []) := by
    intro n
    induction n with
    | zero => intro h H locs ls a0 v1 v2 v3 hm hs hl hh; cases hh
    | succ n ih =>
      intro h H locs ls a0 v1 v2 v3 hm hs hl hh
      unfold mX16_readTest_l10 at hh
      refine lv_iload_n C.1 C.2.1 dX16_readTest_10 rfl (lv_at hl 3 rfl) ?_
      refine lv_if_eq (tgt := 196) C.1 C.2.1 dX16_readTest_11 (by decide) (fun c65 => ?_) (fun c65 => ?_)
      · rw [if_pos c65] at hh
        refine r_aload_n C.1 C.2.1 dX16_readTest_196 rfl (lv_at hl 2 rfl) ?_
        refine W.widen (k := 5) (n := 53) (by omega) (by omega) ?_
        exact r_uretA hQ C hr (Or.inl ⟨_, rfl⟩) hm hs hh dX16_readTest_197
      · rw [if_neg c65] at hh
        refine r_aload_n C.1 C.2.1 dX16_readTest_14 rfl (lv_at hl 0 rfl) ?_
        refine r_aload_n C.1 C.2.1 dX16_readTest_15 rfl (lv_at hl 1 rfl) ?_
        refine r_uV C X hm hs mlX16_254 (in_tbl q_1668 rfl) mvX16_254 hh (vv := (fun v => some (.int v))) (fun b r hg => c_X16_readName l G h b _ r hg) rfl rfl (Nat.le_of_ble_eq_true rfl) (Nat.le_of_ble_eq_true rfl) (Nat.le_of_ble_eq_true rfl) hl.1 ⟨(Nat.le_of_ble_eq_true rfl), (Nat.le_of_ble_eq_true rfl)⟩ dX16_readTest_16 (fun q64 b39 h40 ce H locs _ hh hm hs e1 e2 e3 => r_uout hQ C hx0 hm hs e1 e2 e3 hh ⟨(Nat.le_of_ble_eq_true rfl), (Nat.le_of_ble_eq_true rfl)⟩) (fun b39 x41 h40 H locs _ hh hm hs => ?_)
        try dsimp only at hh
        refine W.eq (g2 := F0 m 19 ls [.int x41]) rfl ?_
        refine lv_istore (i := 4) (lv' := [(4, .int x41), (0, va_rf (some a0)), (1, va_rf v1), (2, va_rf v2), (3, .int v3)]) C.1 C.2.1 dX16_readTest_19 hl (by decide) rfl (fun ls hl => ?_)
        refine r_aload_n C.1 C.2.1 dX16_readTest_21 rfl (lv_at hl 3 rfl) ?_
        refine r_getI C hm flX16_258 dX16_readTest_22 hh (fun x42 _ hh => ?_)
        refine lv_bipush (v := 12) C.1 C.2.1 dX16_readTest_25 (by decide) ?_
        refine lv_icmp_ne (tgt := 36) C.1 C.2.1 dX16_readTest_27 (by decide) (fun c63 => ?_) (fun c63 => ?_)
        · rw [if_neg c63] at hh
          refine r_aload_n C.1 C.2.1 dX16_readTest_36 rfl (lv_at hl 3 rfl) ?_
          refine r_getR C hm flX16_261 dX16_readTest_37 hh (fun x43 _ hh => ?_)
          refine r_aload_n C.1 C.2.1 dX16_readTest_40 rfl (lv_at hl 3 rfl) ?_
          refine r_getI C hm flX16_258 dX16_readTest_41 hh (fun x44 _ hh => ?_)
          refine lv_iload C.1 C.2.1 dX16_readTest_44 (lv_at hl 0 rfl) ?_
          refine r_ast C hm hs dX16_readTest_46 hh (fun h45 H locs _ hh hm hs => ?_)
          refine r_aload_n C.1 C.2.1 dX16_readTest_47 rfl (lv_at hl 1 rfl) ?_
          refine r_cV (hroom := ⟨(Nat.le_of_ble_eq_true rfl), (Nat.le_of_ble_eq_true rfl)⟩) C X hm hs mlX16_192 mvX16_192 hh (vv := fun r => none) (hp := fun r => r) (fun b r hg => c_X16_next l G h45 b  r hg) rfl rfl (Nat.le_of_ble_eq_true rfl) (Nat.le_of_ble_eq_true rfl) (Nat.le_of_ble_eq_true rfl) hl.1 dX16_readTest_48 (fun b47 r46 H locs hgr46 hh hm hs => ?_)
          refine W.eq (g2 := F0 m 51 ls []) rfl ?_
          refine r_aload_n C.1 C.2.1 dX16_readTest_51 rfl (lv_at hl 1 rfl) ?_
          refine lv_bipush (v := 61) C.1 C.2.1 dX16_readTest_52 (by decide) ?_
          refine r_cV (hroom := ⟨(Nat.le_of_ble_eq_true rfl), (Nat.le_of_ble_eq_true rfl)⟩) C X hm hs mlX16_201 mvX16_201 hh (vv := fun r => some (.int r)) (hp := fun r => r46) (fun b r hg => c_X16_is l G r46 b _ r hg) rfl rfl (Nat.le_of_ble_eq_true rfl) (Nat.le_of_ble_eq_true rfl) (Nat.le_of_ble_eq_true rfl) hl.1 dX16_readTest_54 (fun b49 r48 H locs hgr48 hh hm hs => ?_)
          refine W.eq (g2 := F0 m 57 ls [.int r48]) rfl ?_
          refine lv_if_ne (tgt := 84) C.1 C.2.1 dX16_readTest_57 (by decide) (fun c59 => ?_) (fun c59 => ?_)
          · rw [if_neg c59] at hh
            exact B84 _ ih _ _ _ _ _ _ _  hm hs (lv_sub hl [1, 2, 3] rfl) hh
          · rw [if_pos c59] at hh
            refine r_aload_n C.1 C.2.1 dX16_readTest_60 rfl (lv_at hl 1 rfl) ?_
            refine lv_bipush (v := 60) C.1 C.2.1 dX16_readTest_61 (by decide) ?_
            refine r_cV (hroom := ⟨(Nat.le_of_ble_eq_true rfl), (Nat.le_of_ble_eq_true rfl)⟩) C X hm hs mlX16_201 mvX16_201 hh (vv := fun r => some (.int r)) (hp := fun r => r46) (fun b r hg => c_X16_is l G r46 b _ r hg) rfl rfl (Nat.le_of_ble_eq_true rfl) (Nat.le_of_ble_eq_true rfl) (Nat.le_of_ble_eq_true rfl) hl.1 dX16_readTest_63 (fun b51 r50 H locs hgr50 hh hm hs => ?_)
            refine W.eq (g2 := F0 m 66 ls [.int r50]) rfl ?_
            refine lv_if_ne (tgt := 84) C.1 C.2.1 dX16_readTest_66 (by decide) (fun c58 => ?_) (fun c58 => ?_)
            · rw [if_neg c58] at hh
              exact B84 _ ih _ _ _ _ _ _ _  hm hs (lv_sub hl [1, 2, 3] rfl) hh
            · rw [if_pos c58] at hh
              refine r_aload_n C.1 C.2.1 dX16_readTest_69 rfl (lv_at hl 1 rfl) ?_
              refine lv_bipush (v := 62) C.1 C.2.1 dX16_readTest_70 (by decide) ?_
              refine r_cV (hroom := ⟨(Nat.le_of_ble_eq_true rfl), (Nat.le_of_ble_eq_true rfl)⟩) C X hm hs mlX16_201 mvX16_201 hh (vv := fun r => some (.int r)) (hp := fun r => r46) (fun b r hg => c_X16_is l G r46 b _ r hg) rfl rfl (Nat.le_of_ble_eq_true rfl) (Nat.le_of_ble_eq_true rfl) (Nat.le_of_ble_eq_true rfl) hl.1 dX16_readTest_72 (fun b53 r52 H locs hgr52 hh hm hs => ?_)
              refine W.eq (g2 := F0 m 75 ls [.int r52]) rfl ?_
              refine lv_if_ne (tgt := 84) C.1 C.2.1 dX16_readTest_75 (by decide) (fun c57 => ?_) (fun c57 => ?_)
              · rw [if_neg c57] at hh
                exact B84 _ ih _ _ _ _ _ _ _  hm hs (lv_sub hl [1, 2, 3] rfl) hh
              · rw [if_pos c57] at hh
                refine r_aload_n C.1 C.2.1 dX16_readTest_78 rfl (lv_at hl 1 rfl) ?_
                refine lv_iconst (v := 1) C.1 C.2.1 dX16_readTest_79 (by decide) ?_
                refine r_cV (hroom := ⟨(Nat.le_of_ble_eq_true rfl), (Nat.le_of_ble_eq_true rfl)⟩) C X hm hs mlX16_189 mvX16_189 hh (vv := fun r => some (va_rf r.1)) (hp := fun r => r.2) (fun b r hg => c_X16_stop l G r46 b _ r hg) rfl rfl (Nat.le_of_ble_eq_true rfl) (Nat.le_of_ble_eq_true rfl) (Nat.le_of_ble_eq_true rfl) hl.1 dX16_readTest_80 (fun b55 r54 H locs hgr54 hh hm hs => ?_)
                refine W.eq (g2 := F0 m 83 ls [va_rf r54.1]) rfl ?_
                exact r_uthrow hQ C hx0 hm hs hh ⟨(Nat.le_of_ble_eq_true rfl), (Nat.le_of_ble_eq_true rfl)⟩ dX16_readTest_83
        · rw [if_pos c63] at hh
          refine r_aload_n C.1 C.2.1 dX16_readTest_30 rfl (lv_at hl 1 rfl) ?_
          refine lv_iconst (v := 5) C.1 C.2.1 dX16_readTest_31 (by decide) ?_
          refine r_cV (hroom := ⟨(Nat.le_of_ble_eq_true rfl), (Nat.le_of_ble_eq_true rfl)⟩) C X hm hs mlX16_189 mvX16_189 hh (vv := fun r => some (va_rf r.1)) (hp := fun r => r.2) (fun b r hg => c_X16_stop l G h40 b _ r hg) rfl rfl (Nat.le_of_ble_eq_true rfl) (Nat.le_of_ble_eq_true rfl) (Nat.le_of_ble_eq_true rfl) hl.1 dX16_readTest_32 (fun b61 r60 H locs hgr60 hh hm hs => ?_)
          refine W.eq (g2 := F0 m 35 ls [va_rf r60.1]) rfl ?_
          exact r_uthrow hQ C hx0 hm hs hh ⟨(Nat.le_of_ble_eq_true rfl), (Nat.le_of_ble_eq_true rfl)⟩ dX16_readTest_35
  unfold mX16_readTest at hh
  refine r_newG C hm hs nlX16_251 (Nat.le_of_ble_eq_true rfl) (Nat.le_of_ble_eq_true rfl) dX16_readTest_0 hh (fun h66 H hh hm hs => ?_)
  refine lv_dup C.1 C.2.1 dX16_readTest_3 (va_cat _) ?_
  refine r_cC C X hm hs mlX16_253 mcX16_253 hh (hp := fun r => r) (fun r hg => c_X15_init l G h66 _  r hg) rfl rfl (by simp [va_cat, vc_i, vc_l, vc_r]) (Nat.le_of_ble_eq_true rfl) (Nat.le_of_ble_eq_true rfl) ⟨(Nat.le_of_ble_eq_true rfl), (Nat.le_of_ble_eq_true rfl)⟩ hl.1 dX16_readTest_4 (fun r67 H locs hgr67 hh hm hs => ?_)
  refine r_astore_n (i := 2) (lv' := [(2, va_rf (some (hS h))), (0, va_rf (some a0)), (1, va_rf a1)]) C.1 C.2.1 dX16_readTest_7 rfl hl (by decide) (by simp [va_cat, vc_i, vc_l, vc_r]) (fun ls hl => ?_)
  refine lv_iconst (v := 1) C.1 C.2.1 dX16_readTest_8 (by decide) ?_
  refine lv_istore_n (i := 3) (lv' := [(3, .int 1), (2, va_rf (some (hS h))), (0, va_rf (some a0)), (1, va_rf a1)]) C.1 C.2.1 dX16_readTest_9 rfl hl (by decide) (by simp [va_cat, vc_i, vc_l, vc_r]) (fun ls hl => ?_)
  exact B10 FUEL _ _ _ _ _ _ _ _  hm hs (lv_sub hl [2, 3, 1, 0] rfl) hh
def mX16_readNever (h : MHp) (a0 : Nat) : Option ((Unit ⊕ Nat) × MHp) := (gR 17 5 h (some a0)).bind fun x1 => (gI 13 1 h x1).bind fun x2 => (if x2 = 12 then (rcv 17 h (some a0)).bind fun b20 => (mX16_stop h b20 5).bind fun r19 => (rcv 14 r19.2 r19.1).bind fun q21 => some (Sum.inr q21, r19.2) else (rcv 17 h (some a0)).bind fun b4 => (mX16_next h b4).bind fun r3 => (gR 17 5 r3 (some a0)).bind fun x5 => (gR 13 5 r3 x5).bind fun x6 => (gR 17 5 r3 (some a0)).bind fun x7 => (gI 13 1 r3 x7).bind fun x8 => (gR 17 5 r3 (some a0)).bind fun x9 => (rcv 17 r3 (some a0)).bind fun b11 => (mX16_readTest r3 b11 x9).bind fun r10 => (match r10 with | (Sum.inl x13, h12) => (pAR 27 16 h12 x6 x8 x13).bind fun h14 => (gR 17 5 h14 (some a0)).bind fun x15 => (gI 13 1 h14 x15).bind fun x16 => (pI 13 1 h14 x15 (x16 + 1)).bind fun h17 => some (Sum.inl (), h17) | (Sum.inr q18, h12) => some (Sum.inr q18, h12)))
set_option maxRecDepth 100000 in
set_option maxHeartbeats 4000000 in
theorem c_X16_readNever (l : Launch) (G : Env0) (h : MHp) (a0 : Nat) (res : (Unit ⊕ Nat) × MHp) (hh : mX16_readNever h a0 = some res) : UG l yX16_readNever cX16_readNever 1 none 9 195 5 53 G h [.ref a0] (fun _ => none) res := by
  refine UG_of (own := RX16) (by decide) rfl (Nat.le_of_ble_eq_true rfl) ?_
  intro p e s m args below meth c Q ls hQ C X hx0 hm hs hl hr
  have hl : lv_has ls 1 [(0, va_rf (some a0))] := hl
  unfold mX16_readNever at hh
  refine r_aload_n C.1 C.2.1 dX16_readNever_0 rfl (lv_at hl 0 rfl) ?_
  refine r_getR C hm flX16_208 dX16_readNever_1 hh (fun x1 _ hh => ?_)
  refine r_getI C hm flX16_241 dX16_readNever_4 hh (fun x2 _ hh => ?_)
  refine lv_bipush (v := 12) C.1 C.2.1 dX16_readNever_7 (by decide) ?_
  refine lv_icmp_ne (tgt := 18) C.1 C.2.1 dX16_readNever_9 (by decide) (fun c22 => ?_) (fun c22 => ?_)
  · rw [if_neg c22] at hh
    refine r_aload_n C.1 C.2.1 dX16_readNever_18 rfl (lv_at hl 0 rfl) ?_
    refine r_cV (hroom := ⟨(Nat.le_of_ble_eq_true rfl), (Nat.le_of_ble_eq_true rfl)⟩) C X hm hs mlX16_192 mvX16_192 hh (vv := fun r => none) (hp := fun r => r) (fun b r hg => c_X16_next l G h b  r hg) rfl rfl (Nat.le_of_ble_eq_true rfl) (Nat.le_of_ble_eq_true rfl) (Nat.le_of_ble_eq_true rfl) hl.1 dX16_readNever_19 (fun b4 r3 H locs hgr3 hh hm hs => ?_)
    refine W.eq (g2 := F0 m 22 ls []) rfl ?_
    refine r_aload_n C.1 C.2.1 dX16_readNever_22 rfl (lv_at hl 0 rfl) ?_
    refine r_getR C hm flX16_208 dX16_readNever_23 hh (fun x5 _ hh => ?_)
    refine r_getR C hm flX16_244 dX16_readNever_26 hh (fun x6 _ hh => ?_)
    refine r_aload_n C.1 C.2.1 dX16_readNever_29 rfl (lv_at hl 0 rfl) ?_
    refine r_getR C hm flX16_208 dX16_readNever_30 hh (fun x7 _ hh => ?_)
    refine r_getI C hm flX16_241 dX16_readNever_33 hh (fun x8 _ hh => ?_)
    refine r_aload_n C.1 C.2.1 dX16_readNever_36 rfl (lv_at hl 0 rfl) ?_
    refine r_aload_n C.1 C.2.1 dX16_readNever_37 rfl (lv_at hl 0 rfl) ?_
    refine r_getR C hm flX16_208 dX16_readNever_38 hh (fun x9 _ hh => ?_)
    refine r_uV C X hm hs mlX16_247 (in_tbl q_1636 rfl) mvX16_247 hh (vv := (fun v => some (va_rf v))) (fun b r hg => c_X16_readTest l G r3 b _ r hg) rfl rfl (by simp [va_cat, vc_i, vc_l, vc_r]) (Nat.le_of_ble_eq_true rfl) (Nat.le_of_ble_eq_true rfl) hl.1 ⟨(Nat.le_of_ble_eq_true rfl), (Nat.le_of_ble_eq_true rfl)⟩ dX16_readNever_41 (fun q18 b11 h12 ce H locs _ hh hm hs e1 e2 e3 => r_uout hQ C hx0 hm hs e1 e2 e3 hh ⟨(Nat.le_of_ble_eq_true rfl), (Nat.le_of_ble_eq_true rfl)⟩) (fun b11 x13 h12 H locs _ hh hm hs => ?_)
    try dsimp only at hh
    refine W.eq (g2 := F0 m 44 ls [va_rf x13, .int x8, va_rf x6]) rfl ?_
    refine r_ast_q C hm hs dX16_readNever_44 (kd := 27) (kv := 16) (t0 := 7) (by decide) (by decide) rfl rfl hh (fun h14 H locs _ hh hm hs => ?_)
    refine r_aload_n C.1 C.2.1 dX16_readNever_45 rfl (lv_at hl 0 rfl) ?_
    refine r_getR C hm flX16_208 dX16_readNever_46 hh (fun x15 _ hh => ?_)
    refine lv_dup C.1 C.2.1 dX16_readNever_49 (va_cat _) ?_
    refine r_getI C hm flX16_241 dX16_readNever_50 hh (fun x16 _ hh => ?_)
    refine lv_iconst (v := 1) C.1 C.2.1 dX16_readNever_53 (by decide) ?_
    refine lv_iadd C.1 C.2.1 dX16_readNever_54 ?_
    refine r_putI C hm hs flX16_241 (Or.inl fm_13_1) dX16_readNever_55 hh (fun h17 H locs _ hh hm hs => ?_)
    refine W.widen (k := 5) (n := 53) (by omega) (by omega) ?_
    exact r_uretV hQ C hr hm hs hh dX16_readNever_58
  · rw [if_pos c22] at hh
    refine r_aload_n C.1 C.2.1 dX16_readNever_12 rfl (lv_at hl 0 rfl) ?_
    refine lv_iconst (v := 5) C.1 C.2.1 dX16_readNever_13 (by decide) ?_
    refine r_cV (hroom := ⟨(Nat.le_of_ble_eq_true rfl), (Nat.le_of_ble_eq_true rfl)⟩) C X hm hs mlX16_189 mvX16_189 hh (vv := fun r => some (va_rf r.1)) (hp := fun r => r.2) (fun b r hg => c_X16_stop l G h b _ r hg) rfl rfl (Nat.le_of_ble_eq_true rfl) (Nat.le_of_ble_eq_true rfl) (Nat.le_of_ble_eq_true rfl) hl.1 dX16_readNever_14 (fun b20 r19 H locs hgr19 hh hm hs => ?_)
    refine W.eq (g2 := F0 m 17 ls [va_rf r19.1]) rfl ?_
    exact r_uthrow hQ C hx0 hm hs hh ⟨(Nat.le_of_ble_eq_true rfl), (Nat.le_of_ble_eq_true rfl)⟩ dX16_readNever_17
def mX16_readBook_l2 : Nat → MHp → Nat → Int32 → Option ((Unit ⊕ Nat) × MHp)
  | 0, _, _, _ => none
  | n + 1, h, a0, v1 => (if v1 = 0 then (gI 17 13 h (some a0)).bind fun x1 => (if x1 = 1 then some (Sum.inl (), h) else (rcv 17 h (some a0)).bind fun b3 => (mX16_stop h b3 1).bind fun r2 => (rcv 14 r2.2 r2.1).bind fun q4 => some (Sum.inr q4, r2.2)) else (rcv 17 h (some a0)).bind fun b7 => (mX16_isWord h b7 0).bind fun r6 => (if r6 = 0 then (rcv 17 h (some a0)).bind fun b9 => (mX16_isWord h b9 1).bind fun r8 => (if r8 = 0 then (rcv 17 h (some a0)).bind fun b11 => (mX16_stop h b11 1).bind fun r10 => (rcv 14 r10.2 r10.1).bind fun q12 => some (Sum.inr q12, r10.2) else (rcv 17 h (some a0)).bind fun b14 => (mX16_readNever h b14).bind fun r13 => (match r13 with | (Sum.inl x16, h15) => (rcv 17 h15 (some a0)).bind fun b18 => (mX16_is h15 b18 59).bind fun r17 => (if r17 = 0 then mX16_readBook_l2 n h15 a0 r17 else (rcv 17 h15 (some a0)).bind fun b20 => (mX16_next h15 b20).bind fun r19 => mX16_readBook_l2 n r19 a0 r17) | (Sum.inr q22, h15) => some (Sum.inr q22, h15))) else (rcv 17 h (some a0)).bind fun b25 => (mX16_readField h b25).bind fun r24 => (match r24 with | (Sum.inl x27, h26) => (rcv 17 h26 (some a0)).bind fun b29 => (mX16_is h26 b29 59).bind fun r28 => (if r28 = 0 then mX16_readBook_l2 n h26 a0 r28 else (rcv 17 h26 (some a0)).bind fun b31 => (mX16_next h26 b31).bind fun r30 => mX16_readBook_l2 n r30 a0 r28) | (Sum.inr q33, h26) => some (Sum.inr q33, h26))))
def mX16_readBook (h : MHp) (a0 : Nat) : Option ((Unit ⊕ Nat) × MHp) := mX16_readBook_l2 20 h a0 1
set_option maxRecDepth 100000 in
set_option maxHeartbeats 4000000 in
theorem c_X16_readBook (l : Launch) (G : Env0) (h : MHp) (a0 : Nat) (res : (Unit ⊕ Nat) × MHp) (hh : mX16_readBook h a0 = some res) : UG l yX16_readBook cX16_readBook 2 none 10 215 105 1113 G h [.ref a0] (fun _ => none) res := by
  refine UG_of (own := RX16) (by decide) rfl (Nat.le_of_ble_eq_true rfl) ?_
  intro p e s m args below meth c Q ls hQ C X hx0 hm hs hl hr
  have hl : lv_has ls 2 [(0, va_rf (some a0))] := hl
  have B2 : ∀ n : Nat, n ≤ 20 → ∀ (h : MHp) (H : Heap) (locs : List Loc) (ls : Array Slot) (a0 : Nat) (v1 : Int32) , mHp (gD G) (gC G) (gB G) h H → va_S (fun q => gB G ≤ q) s.heap H locs → lv_has ls 2 [(0, va_rf (some a0)), (1, .int v1)] → mX16_readBook_l2 n h a0 v1 = some res → W p l e ({ frames := 10, cells := 105, slots := 1113, locals := 215 }) s m args below meth c H locs ((20 - n) * 5 + 0) ((20 - n) * 53 + 0) Q (F0 m 2 ls []) := by
    intro n
    induction n with
    | zero => intro hn h H locs ls a0 v1 hm hs hl hh; cases hh
    | succ n ih =>
      intro hn h H locs ls a0 v1 hm hs hl hh
      unfold mX16_readBook_l2 at hh
      refine lv_iload_n C.1 C.2.1 dX16_readBook_2 rfl (lv_at hl 1 rfl) ?_
      refine lv_if_eq (tgt := 62) C.1 C.2.1 dX16_readBook_3 (by decide) (fun c35 => ?_) (fun c35 => ?_)
      · rw [if_pos c35] at hh
        refine r_aload_n C.1 C.2.1 dX16_readBook_62 rfl (lv_at hl 0 rfl) ?_
        refine r_getI C hm flX16_148 dX16_readBook_63 hh (fun x1 _ hh => ?_)
        refine lv_iconst (v := 1) C.1 C.2.1 dX16_readBook_66 (by decide) ?_
        refine lv_icmp_eq (tgt := 76) C.1 C.2.1 dX16_readBook_67 (by decide) (fun c5 => ?_) (fun c5 => ?_)
        · rw [if_pos c5] at hh
          refine W.widen (k := 105) (n := 1113) (by omega) (by omega) ?_
          exact r_uretV hQ C hr hm hs hh dX16_readBook_76
        · rw [if_neg c5] at hh
          refine r_aload_n C.1 C.2.1 dX16_readBook_70 rfl (lv_at hl 0 rfl) ?_
          refine lv_iconst (v := 1) C.1 C.2.1 dX16_readBook_71 (by decide) ?_
          refine r_cV (hroom := ⟨(show _ ≤ _ by (try simp only); omega), (show _ ≤ _ by (try simp only); omega)⟩) C X hm hs mlX16_189 mvX16_189 hh (vv := fun r => some (va_rf r.1)) (hp := fun r => r.2) (fun b r hg => c_X16_stop l G h b _ r hg) rfl rfl (Nat.le_of_ble_eq_true rfl) (Nat.le_of_ble_eq_true rfl) (Nat.le_of_ble_eq_true rfl) hl.1 dX16_readBook_72 (fun b3 r2 H locs hgr2 hh hm hs => ?_)
          refine W.eq (g2 := F0 m 75 ls [va_rf r2.1]) rfl ?_
          exact r_uthrow hQ C hx0 hm hs hh ⟨(by (try simp only); omega), (by (try simp only); omega)⟩ dX16_readBook_75
      · rw [if_neg c35] at hh
        refine r_aload_n C.1 C.2.1 dX16_readBook_6 rfl (lv_at hl 0 rfl) ?_
        refine r_ldcS C X (i := 0) (by decide) rfl dX16_readBook_7 ?_
        refine r_cV (hroom := ⟨(show _ ≤ _ by (try simp only); omega), (show _ ≤ _ by (try simp only); omega)⟩) C X hm hs mlX16_174 mvX16_174 hh (vv := fun r => some (.int r)) (hp := fun r => h) (fun b r hg => c_X16_isWord l G h b _ r hg) rfl rfl (Nat.le_of_ble_eq_true rfl) (Nat.le_of_ble_eq_true rfl) (Nat.le_of_ble_eq_true rfl) hl.1 dX16_readBook_9 (fun b7 r6 H locs hgr6 hh hm hs => ?_)
        refine W.eq (g2 := F0 m 12 ls [.int r6]) rfl ?_
        refine lv_if_eq (tgt := 22) C.1 C.2.1 dX16_readBook_12 (by decide) (fun c34 => ?_) (fun c34 => ?_)
        · rw [if_pos c34] at hh
          refine r_aload_n C.1 C.2.1 dX16_readBook_22 rfl (lv_at hl 0 rfl) ?_
          refine r_ldcS C X (i := 1) (by decide) rfl dX16_readBook_23 ?_
          refine r_cV (hroom := ⟨(show _ ≤ _ by (try simp only); omega), (show _ ≤ _ by (try simp only); omega)⟩) C X hm hs mlX16_174 mvX16_174 hh (vv := fun r => some (.int r)) (hp := fun r => h) (fun b r hg => c_X16_isWord l G h b _ r hg) rfl rfl (Nat.le_of_ble_eq_true rfl) (Nat.le_of_ble_eq_true rfl) (Nat.le_of_ble_eq_true rfl) hl.1 dX16_readBook_25 (fun b9 r8 H locs hgr8 hh hm hs => ?_)
          refine W.eq (g2 := F0 m 28 ls [.int r8]) rfl ?_
          refine lv_if_eq (tgt := 38) C.1 C.2.1 dX16_readBook_28 (by decide) (fun c23 => ?_) (fun c23 => ?_)
          · rw [if_pos c23] at hh
            refine r_aload_n C.1 C.2.1 dX16_readBook_38 rfl (lv_at hl 0 rfl) ?_
            refine lv_iconst (v := 1) C.1 C.2.1 dX16_readBook_39 (by decide) ?_
            refine r_cV (hroom := ⟨(show _ ≤ _ by (try simp only); omega), (show _ ≤ _ by (try simp only); omega)⟩) C X hm hs mlX16_189 mvX16_189 hh (vv := fun r => some (va_rf r.1)) (hp := fun r => r.2) (fun b r hg => c_X16_stop l G h b _ r hg) rfl rfl (Nat.le_of_ble_eq_true rfl) (Nat.le_of_ble_eq_true rfl) (Nat.le_of_ble_eq_true rfl) hl.1 dX16_readBook_40 (fun b11 r10 H locs hgr10 hh hm hs => ?_)
            refine W.eq (g2 := F0 m 43 ls [va_rf r10.1]) rfl ?_
            exact r_uthrow hQ C hx0 hm hs hh ⟨(by (try simp only); omega), (by (try simp only); omega)⟩ dX16_readBook_43
          · rw [if_neg c23] at hh
            refine r_aload_n C.1 C.2.1 dX16_readBook_31 rfl (lv_at hl 0 rfl) ?_
            refine r_uV C X hm hs mlX16_198 (in_tbl q_1632 rfl) mvX16_198 hh (vv := (fun _ => none)) (fun b r hg => c_X16_readNever l G h b  r hg) rfl rfl (Nat.le_of_ble_eq_true rfl) (Nat.le_of_ble_eq_true rfl) (Nat.le_of_ble_eq_true rfl) hl.1 ⟨(by (try simp only); omega), (by (try simp only); omega)⟩ dX16_readBook_32 (fun q22 b14 h15 ce H locs _ hh hm hs e1 e2 e3 => r_uout hQ C hx0 hm hs e1 e2 e3 hh ⟨(by (try simp only); omega), (by (try simp only); omega)⟩) (fun b14 x16 h15 H locs _ hh hm hs => ?_)
            try dsimp only at hh
            refine W.eq (g2 := F0 m 35 ls []) rfl ?_
            refine lv_goto (tgt := 44) C.1 C.2.1 dX16_readBook_35 (by decide) ?_
            refine r_aload_n C.1 C.2.1 dX16_readBook_44 rfl (lv_at hl 0 rfl) ?_
            refine lv_bipush (v := 59) C.1 C.2.1 dX16_readBook_45 (by decide) ?_
            refine r_cV (hroom := ⟨(show _ ≤ _ by (try simp only); omega), (show _ ≤ _ by (try simp only); omega)⟩) C X hm hs mlX16_201 mvX16_201 hh (vv := fun r => some (.int r)) (hp := fun r => h15) (fun b r hg => c_X16_is l G h15 b _ r hg) rfl rfl (Nat.le_of_ble_eq_true rfl) (Nat.le_of_ble_eq_true rfl) (Nat.le_of_ble_eq_true rfl) hl.1 dX16_readBook_47 (fun b18 r17 H locs hgr17 hh hm hs => ?_)
            refine W.eq (g2 := F0 m 50 ls [.int r17]) rfl ?_
            refine lv_istore_n (i := 1) (lv' := [(1, .int r17), (0, va_rf (some a0))]) C.1 C.2.1 dX16_readBook_50 rfl hl (by decide) (by simp [va_cat, vc_i, vc_l, vc_r]) (fun ls hl => ?_)
            refine lv_iload_n C.1 C.2.1 dX16_readBook_51 rfl (lv_at hl 0 rfl) ?_
            refine lv_if_eq (tgt := 2) C.1 C.2.1 dX16_readBook_52 (by decide) (fun c21 => ?_) (fun c21 => ?_)
            · rw [if_pos c21] at hh
              refine W.widen (k := ((20 - n) * 5 + 0)) (n := ((20 - n) * 53 + 0)) (by omega) (by omega) ?_
              exact ih (by omega) _ _ _ _ _ _  hm hs (lv_sub hl [1, 0] rfl) hh
            · rw [if_neg c21] at hh
              refine r_aload_n C.1 C.2.1 dX16_readBook_55 rfl (lv_at hl 1 rfl) ?_
              refine r_cV (hroom := ⟨(show _ ≤ _ by (try simp only); omega), (show _ ≤ _ by (try simp only); omega)⟩) C X hm hs mlX16_192 mvX16_192 hh (vv := fun r => none) (hp := fun r => r) (fun b r hg => c_X16_next l G h15 b  r hg) rfl rfl (Nat.le_of_ble_eq_true rfl) (Nat.le_of_ble_eq_true rfl) (Nat.le_of_ble_eq_true rfl) hl.1 dX16_readBook_56 (fun b20 r19 H locs hgr19 hh hm hs => ?_)
              refine W.eq (g2 := F0 m 59 ls []) rfl ?_
              refine lv_goto (tgt := 2) C.1 C.2.1 dX16_readBook_59 (by decide) ?_
              refine W.widen (k := ((20 - n) * 5 + 0)) (n := ((20 - n) * 53 + 0)) (by omega) (by omega) ?_
              exact ih (by omega) _ _ _ _ _ _  hm hs (lv_sub hl [1, 0] rfl) hh
        · rw [if_neg c34] at hh
          refine r_aload_n C.1 C.2.1 dX16_readBook_15 rfl (lv_at hl 0 rfl) ?_
          refine r_uV C X hm hs mlX16_195 (in_tbl q_1601 rfl) mvX16_195 hh (vv := (fun _ => none)) (fun b r hg => c_X16_readField l G h b  r hg) rfl rfl (Nat.le_of_ble_eq_true rfl) (Nat.le_of_ble_eq_true rfl) (Nat.le_of_ble_eq_true rfl) hl.1 ⟨(by (try simp only); omega), (by (try simp only); omega)⟩ dX16_readBook_16 (fun q33 b25 h26 ce H locs _ hh hm hs e1 e2 e3 => r_uout hQ C hx0 hm hs e1 e2 e3 hh ⟨(by (try simp only); omega), (by (try simp only); omega)⟩) (fun b25 x27 h26 H locs _ hh hm hs => ?_)
          try dsimp only at hh
          refine W.eq (g2 := F0 m 19 ls []) rfl ?_
          refine lv_goto (tgt := 44) C.1 C.2.1 dX16_readBook_19 (by decide) ?_
          refine r_aload_n C.1 C.2.1 dX16_readBook_44 rfl (lv_at hl 0 rfl) ?_
          refine lv_bipush (v := 59) C.1 C.2.1 dX16_readBook_45 (by decide) ?_
          refine r_cV (hroom := ⟨(show _ ≤ _ by (try simp only); omega), (show _ ≤ _ by (try simp only); omega)⟩) C X hm hs mlX16_201 mvX16_201 hh (vv := fun r => some (.int r)) (hp := fun r => h26) (fun b r hg => c_X16_is l G h26 b _ r hg) rfl rfl (Nat.le_of_ble_eq_true rfl) (Nat.le_of_ble_eq_true rfl) (Nat.le_of_ble_eq_true rfl) hl.1 dX16_readBook_47 (fun b29 r28 H locs hgr28 hh hm hs => ?_)
          refine W.eq (g2 := F0 m 50 ls [.int r28]) rfl ?_
          refine lv_istore_n (i := 1) (lv' := [(1, .int r28), (0, va_rf (some a0))]) C.1 C.2.1 dX16_readBook_50 rfl hl (by decide) (by simp [va_cat, vc_i, vc_l, vc_r]) (fun ls hl => ?_)
          refine lv_iload_n C.1 C.2.1 dX16_readBook_51 rfl (lv_at hl 0 rfl) ?_
          refine lv_if_eq (tgt := 2) C.1 C.2.1 dX16_readBook_52 (by decide) (fun c32 => ?_) (fun c32 => ?_)
          · rw [if_pos c32] at hh
            refine W.widen (k := ((20 - n) * 5 + 0)) (n := ((20 - n) * 53 + 0)) (by omega) (by omega) ?_
            exact ih (by omega) _ _ _ _ _ _  hm hs (lv_sub hl [1, 0] rfl) hh
          · rw [if_neg c32] at hh
            refine r_aload_n C.1 C.2.1 dX16_readBook_55 rfl (lv_at hl 1 rfl) ?_
            refine r_cV (hroom := ⟨(show _ ≤ _ by (try simp only); omega), (show _ ≤ _ by (try simp only); omega)⟩) C X hm hs mlX16_192 mvX16_192 hh (vv := fun r => none) (hp := fun r => r) (fun b r hg => c_X16_next l G h26 b  r hg) rfl rfl (Nat.le_of_ble_eq_true rfl) (Nat.le_of_ble_eq_true rfl) (Nat.le_of_ble_eq_true rfl) hl.1 dX16_readBook_56 (fun b31 r30 H locs hgr30 hh hm hs => ?_)
            refine W.eq (g2 := F0 m 59 ls []) rfl ?_
            refine lv_goto (tgt := 2) C.1 C.2.1 dX16_readBook_59 (by decide) ?_
            refine W.widen (k := ((20 - n) * 5 + 0)) (n := ((20 - n) * 53 + 0)) (by omega) (by omega) ?_
            exact ih (by omega) _ _ _ _ _ _  hm hs (lv_sub hl [1, 0] rfl) hh
  unfold mX16_readBook at hh
  refine lv_iconst (v := 1) C.1 C.2.1 dX16_readBook_0 (by decide) ?_
  refine lv_istore_n (i := 1) (lv' := [(1, .int 1), (0, va_rf (some a0))]) C.1 C.2.1 dX16_readBook_1 rfl hl (by decide) (by simp [va_cat, vc_i, vc_l, vc_r]) (fun ls hl => ?_)
  refine W.widen (k := ((20 - 20) * 5 + 0)) (n := ((20 - 20) * 53 + 0)) (by omega) (by omega) ?_
  exact B2 20 (Nat.le_refl _) _ _ _ _ _ _  hm hs (lv_sub hl [1, 0] rfl) hh
def mX16_readTable_b146 (h : MHp) (a0 : Nat) (v1 : Option Nat) : Option ((Option Nat ⊕ Nat) × MHp) := (gI 17 13 h (some a0)).bind fun x1 => (if x1 = 1 then some (Sum.inl v1, h) else (rcv 17 h (some a0)).bind fun b3 => (mX16_stop h b3 1).bind fun r2 => (rcv 14 r2.2 r2.1).bind fun q4 => some (Sum.inr q4, r2.2))
def mX16_readTable_b121 (h : MHp) (a0 : Nat) (v1 : Option Nat) : Option ((Option Nat ⊕ Nat) × MHp) := (rcv 17 h (some a0)).bind fun b7 => (mX16_isWord h b7 6).bind fun r6 => (if r6 = 0 then mX16_readTable_b146 h a0 v1 else (rcv 17 h (some a0)).bind fun b9 => (mX16_next h b9).bind fun r8 => (gR 17 4 r8 (some a0)).bind fun x10 => (rcv 17 r8 (some a0)).bind fun b12 => (mX16_readTest r8 b12 x10).bind fun r11 => (match r11 with | (Sum.inl x14, h13) => (pR 15 3 h13 v1 x14).bind fun h15 => mX16_readTable_b146 h15 a0 v1 | (Sum.inr q16, h13) => some (Sum.inr q16, h13)))
def mX16_readTable_b46 (h : MHp) (a0 : Nat) (v1 : Option Nat) : Option ((Option Nat ⊕ Nat) × MHp) := (rcv 17 h (some a0)).bind fun b19 => (mX16_isWord h b19 5).bind fun r18 => (if r18 = 0 then mX16_readTable_b121 h a0 v1 else (rcv 17 h (some a0)).bind fun b21 => (mX16_next h b21).bind fun r20 => (gR 17 4 r20 (some a0)).bind fun x22 => (rcv 17 r20 (some a0)).bind fun b24 => (mX16_readName r20 b24 x22).bind fun r23 => (match r23 with | (Sum.inl x26, h25) => (pI 15 1 h25 v1 x26).bind fun h27 => (rcv 17 h27 (some a0)).bind fun b29 => (mX16_next h27 b29).bind fun r28 => (rcv 17 r28 (some a0)).bind fun b31 => (mX16_is r28 b31 44).bind fun r30 => (if r30 = 0 then mX16_readTable_b121 r28 a0 v1 else (rcv 17 r28 (some a0)).bind fun b33 => (mX16_next r28 b33).bind fun r32 => (gR 17 4 r32 (some a0)).bind fun x34 => (rcv 17 r32 (some a0)).bind fun b36 => (mX16_readName r32 b36 x34).bind fun r35 => (match r35 with | (Sum.inl x38, h37) => (pI 15 2 h37 v1 x38).bind fun h39 => (gI 15 2 h39 v1).bind fun x40 => (gI 15 1 h39 v1).bind fun x41 => (if x40 = x41 then (rcv 17 h39 (some a0)).bind fun b45 => (mX16_stop h39 b45 3).bind fun r44 => (rcv 14 r44.2 r44.1).bind fun q46 => some (Sum.inr q46, r44.2) else (rcv 17 h39 (some a0)).bind fun b43 => (mX16_next h39 b43).bind fun r42 => mX16_readTable_b121 r42 a0 v1) | (Sum.inr q48, h37) => some (Sum.inr q48, h37))) | (Sum.inr q50, h25) => some (Sum.inr q50, h25)))
def mX16_readTable (h : MHp) (a0 : Nat) : Option ((Option Nat ⊕ Nat) × MHp) := (some (nO h 15 7)).bind fun h52 => (mX14_init h52 (hS h)).bind fun r53 => (rcv 17 r53 (some a0)).bind fun b56 => (mX16_isWord r53 b56 4).bind fun r55 => (if r55 = 0 then (rcv 17 r53 (some a0)).bind fun b58 => (mX16_needWord r53 b58 3).bind fun r57 => (match r57 with | (Sum.inl x60, h59) => mX16_readTable_b46 h59 a0 (some (hS h)) | (Sum.inr q61, h59) => some (Sum.inr q61, h59)) else (rcv 17 r53 (some a0)).bind fun b63 => (mX16_next r53 b63).bind fun r62 => (gR 17 4 r62 (some a0)).bind fun x64 => (rcv 17 r62 (some a0)).bind fun b66 => (mX16_readName r62 b66 x64).bind fun r65 => (match r65 with | (Sum.inl x68, h67) => (pI 15 0 h67 (some (hS h)) x68).bind fun h69 => (rcv 17 h69 (some a0)).bind fun b71 => (mX16_next h69 b71).bind fun r70 => mX16_readTable_b46 r70 a0 (some (hS h)) | (Sum.inr q72, h67) => some (Sum.inr q72, h67)))
set_option maxRecDepth 100000 in
set_option maxHeartbeats 4000000 in
theorem c_X16_readTable (l : Launch) (G : Env0) (h : MHp) (a0 : Nat) (res : (Option Nat ⊕ Nat) × MHp) (hh : mX16_readTable h a0 = some res) : UG l yX16_readTable cX16_readTable 2 (some (.object "CountOfficeModel$Table")) 9 195 9 360 G h [.ref a0] (fun v => some (va_rf v)) res := by
  refine UG_of (own := RX16) (by decide) rfl (Nat.le_of_ble_eq_true rfl) ?_
  intro p e s m args below meth c Q ls hQ C X hx0 hm hs hl hr
  have hl : lv_has ls 2 [(0, va_rf (some a0))] := hl
  have B146 : ∀ (h : MHp) (H : Heap) (locs : List Loc) (ls : Array Slot) (a0 : Nat) (v1 : Option Nat) , mHp (gD G) (gC G) (gB G) h H → va_S (fun q => gB G ≤ q) s.heap H locs → lv_has ls 2 [(0, va_rf (some a0)), (1, va_rf v1)] → mX16_readTable_b146 h a0 v1 = some res → W p l e ({ frames := 9, cells := 9, slots := 360, locals := 195 }) s m args below meth c H locs 9 360 Q (F0 m 146 ls []) := by
    intro h H locs ls a0 v1 hm hs hl hh
    unfold mX16_readTable_b146 at hh
    refine r_aload_n C.1 C.2.1 dX16_readTable_146 rfl (lv_at hl 0 rfl) ?_
    refine r_getI C hm flX16_148 dX16_readTable_147 hh (fun x1 _ hh => ?_)
    refine lv_iconst (v := 1) C.1 C.2.1 dX16_readTable_150 (by decide) ?_
    refine lv_icmp_eq (tgt := 160) C.1 C.2.1 dX16_readTable_151 (by decide) (fun c5 => ?_) (fun c5 => ?_)
    · rw [if_pos c5] at hh
      refine r_aload_n C.1 C.2.1 dX16_readTable_160 rfl (lv_at hl 1 rfl) ?_
      refine W.widen (k := 9) (n := 360) (by omega) (by omega) ?_
      exact r_uretA hQ C hr (Or.inl ⟨_, rfl⟩) hm hs hh dX16_readTable_161
    · rw [if_neg c5] at hh
      refine r_aload_n C.1 C.2.1 dX16_readTable_154 rfl (lv_at hl 0 rfl) ?_
      refine lv_iconst (v := 1) C.1 C.2.1 dX16_readTable_155 (by decide) ?_
      refine r_cV (hroom := ⟨(Nat.le_of_ble_eq_true rfl), (Nat.le_of_ble_eq_true rfl)⟩) C X hm hs mlX16_189 mvX16_189 hh (vv := fun r => some (va_rf r.1)) (hp := fun r => r.2) (fun b r hg => c_X16_stop l G h b _ r hg) rfl rfl (Nat.le_of_ble_eq_true rfl) (Nat.le_of_ble_eq_true rfl) (Nat.le_of_ble_eq_true rfl) hl.1 dX16_readTable_156 (fun b3 r2 H locs hgr2 hh hm hs => ?_)
      refine W.eq (g2 := F0 m 159 ls [va_rf r2.1]) rfl ?_
      exact r_uthrow hQ C hx0 hm hs hh ⟨(Nat.le_of_ble_eq_true rfl), (Nat.le_of_ble_eq_true rfl)⟩ dX16_readTable_159
  have B121 : ∀ (h : MHp) (H : Heap) (locs : List Loc) (ls : Array Slot) (a0 : Nat) (v1 : Option Nat) , mHp (gD G) (gC G) (gB G) h H → va_S (fun q => gB G ≤ q) s.heap H locs → lv_has ls 2 [(0, va_rf (some a0)), (1, va_rf v1)] → mX16_readTable_b121 h a0 v1 = some res → W p l e ({ frames := 9, cells := 9, slots := 360, locals := 195 }) s m args below meth c H locs 4 307 Q (F0 m 121 ls []) := by
    intro h H locs ls a0 v1 hm hs hl hh
    unfold mX16_readTable_b121 at hh
    refine r_aload_n C.1 C.2.1 dX16_readTable_121 rfl (lv_at hl 0 rfl) ?_
    refine r_ldcS C X (i := 6) (by decide) rfl dX16_readTable_122 ?_
    refine r_cV (hroom := ⟨(Nat.le_of_ble_eq_true rfl), (Nat.le_of_ble_eq_true rfl)⟩) C X hm hs mlX16_174 mvX16_174 hh (vv := fun r => some (.int r)) (hp := fun r => h) (fun b r hg => c_X16_isWord l G h b _ r hg) rfl rfl (Nat.le_of_ble_eq_true rfl) (Nat.le_of_ble_eq_true rfl) (Nat.le_of_ble_eq_true rfl) hl.1 dX16_readTable_124 (fun b7 r6 H locs hgr6 hh hm hs => ?_)
    refine W.eq (g2 := F0 m 127 ls [.int r6]) rfl ?_
    refine lv_if_eq (tgt := 146) C.1 C.2.1 dX16_readTable_127 (by decide) (fun c17 => ?_) (fun c17 => ?_)
    · rw [if_pos c17] at hh
      refine W.widen (k := 9) (n := 360) (by omega) (by omega) ?_
      exact B146 _ _ _ _ _ _  hm hs (lv_sub hl [0, 1] rfl) hh
    · rw [if_neg c17] at hh
      refine r_aload_n C.1 C.2.1 dX16_readTable_130 rfl (lv_at hl 0 rfl) ?_
      refine r_cV (hroom := ⟨(Nat.le_of_ble_eq_true rfl), (Nat.le_of_ble_eq_true rfl)⟩) C X hm hs mlX16_192 mvX16_192 hh (vv := fun r => none) (hp := fun r => r) (fun b r hg => c_X16_next l G h b  r hg) rfl rfl (Nat.le_of_ble_eq_true rfl) (Nat.le_of_ble_eq_true rfl) (Nat.le_of_ble_eq_true rfl) hl.1 dX16_readTable_131 (fun b9 r8 H locs hgr8 hh hm hs => ?_)
      refine W.eq (g2 := F0 m 134 ls []) rfl ?_
      refine r_aload_n C.1 C.2.1 dX16_readTable_134 rfl (lv_at hl 1 rfl) ?_
      refine r_aload_n C.1 C.2.1 dX16_readTable_135 rfl (lv_at hl 0 rfl) ?_
      refine r_aload_n C.1 C.2.1 dX16_readTable_136 rfl (lv_at hl 0 rfl) ?_
      refine r_getR C hm flX16_274 dX16_readTable_137 hh (fun x10 _ hh => ?_)
      refine r_uV C X hm hs mlX16_247 (in_tbl q_1636 rfl) mvX16_247 hh (vv := (fun v => some (va_rf v))) (fun b r hg => c_X16_readTest l G r8 b _ r hg) rfl rfl (by simp [va_cat, vc_i, vc_l, vc_r]) (Nat.le_of_ble_eq_true rfl) (Nat.le_of_ble_eq_true rfl) hl.1 ⟨(Nat.le_of_ble_eq_true rfl), (Nat.le_of_ble_eq_true rfl)⟩ dX16_readTable_140 (fun q16 b12 h13 ce H locs _ hh hm hs e1 e2 e3 => r_uout hQ C hx0 hm hs e1 e2 e3 hh ⟨(Nat.le_of_ble_eq_true rfl), (Nat.le_of_ble_eq_true rfl)⟩) (fun b12 x14 h13 H locs _ hh hm hs => ?_)
      try dsimp only at hh
      refine W.eq (g2 := F0 m 143 ls [va_rf x14, va_rf v1]) rfl ?_
      refine r_putR C hm hs flX16_284 (Or.inl fm_15_3) dX16_readTable_143 hh (fun h15 H locs _ hh hm hs => ?_)
      exact B146 _ _ _ _ _ _  hm hs (lv_sub hl [0, 1] rfl) hh
  have B46 : ∀ (h : MHp) (H : Heap) (locs : List Loc) (ls : Array Slot) (a0 : Nat) (v1 : Option Nat) , mHp (gD G) (gC G) (gB G) h H → va_S (fun q => gB G ≤ q) s.heap H locs → lv_has ls 2 [(0, va_rf (some a0)), (1, va_rf v1)] → mX16_readTable_b46 h a0 v1 = some res → W p l e ({ frames := 9, cells := 9, slots := 360, locals := 195 }) s m args below meth c H locs 4 307 Q (F0 m 46 ls []) := by
    intro h H locs ls a0 v1 hm hs hl hh
    unfold mX16_readTable_b46 at hh
    refine r_aload_n C.1 C.2.1 dX16_readTable_46 rfl (lv_at hl 0 rfl) ?_
    refine r_ldcS C X (i := 5) (by decide) rfl dX16_readTable_47 ?_
    refine r_cV (hroom := ⟨(Nat.le_of_ble_eq_true rfl), (Nat.le_of_ble_eq_true rfl)⟩) C X hm hs mlX16_174 mvX16_174 hh (vv := fun r => some (.int r)) (hp := fun r => h) (fun b r hg => c_X16_isWord l G h b _ r hg) rfl rfl (Nat.le_of_ble_eq_true rfl) (Nat.le_of_ble_eq_true rfl) (Nat.le_of_ble_eq_true rfl) hl.1 dX16_readTable_49 (fun b19 r18 H locs hgr18 hh hm hs => ?_)
    refine W.eq (g2 := F0 m 52 ls [.int r18]) rfl ?_
    refine lv_if_eq (tgt := 121) C.1 C.2.1 dX16_readTable_52 (by decide) (fun c51 => ?_) (fun c51 => ?_)
    · rw [if_pos c51] at hh
      exact B121 _ _ _ _ _ _  hm hs (lv_sub hl [0, 1] rfl) hh
    · rw [if_neg c51] at hh
      refine r_aload_n C.1 C.2.1 dX16_readTable_55 rfl (lv_at hl 0 rfl) ?_
      refine r_cV (hroom := ⟨(Nat.le_of_ble_eq_true rfl), (Nat.le_of_ble_eq_true rfl)⟩) C X hm hs mlX16_192 mvX16_192 hh (vv := fun r => none) (hp := fun r => r) (fun b r hg => c_X16_next l G h b  r hg) rfl rfl (Nat.le_of_ble_eq_true rfl) (Nat.le_of_ble_eq_true rfl) (Nat.le_of_ble_eq_true rfl) hl.1 dX16_readTable_56 (fun b21 r20 H locs hgr20 hh hm hs => ?_)
      refine W.eq (g2 := F0 m 59 ls []) rfl ?_
      refine r_aload_n C.1 C.2.1 dX16_readTable_59 rfl (lv_at hl 1 rfl) ?_
      refine r_aload_n C.1 C.2.1 dX16_readTable_60 rfl (lv_at hl 0 rfl) ?_
      refine r_aload_n C.1 C.2.1 dX16_readTable_61 rfl (lv_at hl 0 rfl) ?_
      refine r_getR C hm flX16_274 dX16_readTable_62 hh (fun x22 _ hh => ?_)
      refine r_uV C X hm hs mlX16_254 (in_tbl q_1668 rfl) mvX16_254 hh (vv := (fun v => some (.int v))) (fun b r hg => c_X16_readName l G r20 b _ r hg) rfl rfl (by simp [va_cat, vc_i, vc_l, vc_r]) (Nat.le_of_ble_eq_true rfl) (Nat.le_of_ble_eq_true rfl) hl.1 ⟨(Nat.le_of_ble_eq_true rfl), (Nat.le_of_ble_eq_true rfl)⟩ dX16_readTable_65 (fun q50 b24 h25 ce H locs _ hh hm hs e1 e2 e3 => r_uout hQ C hx0 hm hs e1 e2 e3 hh ⟨(Nat.le_of_ble_eq_true rfl), (Nat.le_of_ble_eq_true rfl)⟩) (fun b24 x26 h25 H locs _ hh hm hs => ?_)
      try dsimp only at hh
      refine W.eq (g2 := F0 m 68 ls [.int x26, va_rf v1]) rfl ?_
      refine r_putI C hm hs flX16_279 (Or.inl fm_15_1) dX16_readTable_68 hh (fun h27 H locs _ hh hm hs => ?_)
      refine r_aload_n C.1 C.2.1 dX16_readTable_71 rfl (lv_at hl 0 rfl) ?_
      refine r_cV (hroom := ⟨(Nat.le_of_ble_eq_true rfl), (Nat.le_of_ble_eq_true rfl)⟩) C X hm hs mlX16_192 mvX16_192 hh (vv := fun r => none) (hp := fun r => r) (fun b r hg => c_X16_next l G h27 b  r hg) rfl rfl (Nat.le_of_ble_eq_true rfl) (Nat.le_of_ble_eq_true rfl) (Nat.le_of_ble_eq_true rfl) hl.1 dX16_readTable_72 (fun b29 r28 H locs hgr28 hh hm hs => ?_)
      refine W.eq (g2 := F0 m 75 ls []) rfl ?_
      refine r_aload_n C.1 C.2.1 dX16_readTable_75 rfl (lv_at hl 0 rfl) ?_
      refine lv_bipush (v := 44) C.1 C.2.1 dX16_readTable_76 (by decide) ?_
      refine r_cV (hroom := ⟨(Nat.le_of_ble_eq_true rfl), (Nat.le_of_ble_eq_true rfl)⟩) C X hm hs mlX16_201 mvX16_201 hh (vv := fun r => some (.int r)) (hp := fun r => r28) (fun b r hg => c_X16_is l G r28 b _ r hg) rfl rfl (Nat.le_of_ble_eq_true rfl) (Nat.le_of_ble_eq_true rfl) (Nat.le_of_ble_eq_true rfl) hl.1 dX16_readTable_78 (fun b31 r30 H locs hgr30 hh hm hs => ?_)
      refine W.eq (g2 := F0 m 81 ls [.int r30]) rfl ?_
      refine lv_if_eq (tgt := 121) C.1 C.2.1 dX16_readTable_81 (by decide) (fun c49 => ?_) (fun c49 => ?_)
      · rw [if_pos c49] at hh
        exact B121 _ _ _ _ _ _  hm hs (lv_sub hl [0, 1] rfl) hh
      · rw [if_neg c49] at hh
        refine r_aload_n C.1 C.2.1 dX16_readTable_84 rfl (lv_at hl 0 rfl) ?_
        refine r_cV (hroom := ⟨(Nat.le_of_ble_eq_true rfl), (Nat.le_of_ble_eq_true rfl)⟩) C X hm hs mlX16_192 mvX16_192 hh (vv := fun r => none) (hp := fun r => r) (fun b r hg => c_X16_next l G r28 b  r hg) rfl rfl (Nat.le_of_ble_eq_true rfl) (Nat.le_of_ble_eq_true rfl) (Nat.le_of_ble_eq_true rfl) hl.1 dX16_readTable_85 (fun b33 r32 H locs hgr32 hh hm hs => ?_)
        refine W.eq (g2 := F0 m 88 ls []) rfl ?_
        refine r_aload_n C.1 C.2.1 dX16_readTable_88 rfl (lv_at hl 1 rfl) ?_
        refine r_aload_n C.1 C.2.1 dX16_readTable_89 rfl (lv_at hl 0 rfl) ?_
        refine r_aload_n C.1 C.2.1 dX16_readTable_90 rfl (lv_at hl 0 rfl) ?_
        refine r_getR C hm flX16_274 dX16_readTable_91 hh (fun x34 _ hh => ?_)
        refine r_uV C X hm hs mlX16_254 (in_tbl q_1668 rfl) mvX16_254 hh (vv := (fun v => some (.int v))) (fun b r hg => c_X16_readName l G r32 b _ r hg) rfl rfl (by simp [va_cat, vc_i, vc_l, vc_r]) (Nat.le_of_ble_eq_true rfl) (Nat.le_of_ble_eq_true rfl) hl.1 ⟨(Nat.le_of_ble_eq_true rfl), (Nat.le_of_ble_eq_true rfl)⟩ dX16_readTable_94 (fun q48 b36 h37 ce H locs _ hh hm hs e1 e2 e3 => r_uout hQ C hx0 hm hs e1 e2 e3 hh ⟨(Nat.le_of_ble_eq_true rfl), (Nat.le_of_ble_eq_true rfl)⟩) (fun b36 x38 h37 H locs _ hh hm hs => ?_)
        try dsimp only at hh
        refine W.eq (g2 := F0 m 97 ls [.int x38, va_rf v1]) rfl ?_
        refine r_putI C hm hs flX16_281 (Or.inl fm_15_2) dX16_readTable_97 hh (fun h39 H locs _ hh hm hs => ?_)
        refine r_aload_n C.1 C.2.1 dX16_readTable_100 rfl (lv_at hl 1 rfl) ?_
        refine r_getI C hm flX16_281 dX16_readTable_101 hh (fun x40 _ hh => ?_)
        refine r_aload_n C.1 C.2.1 dX16_readTable_104 rfl (lv_at hl 1 rfl) ?_
        refine r_getI C hm flX16_279 dX16_readTable_105 hh (fun x41 _ hh => ?_)
        refine lv_icmp_ne (tgt := 117) C.1 C.2.1 dX16_readTable_108 (by decide) (fun c47 => ?_) (fun c47 => ?_)
        · rw [if_neg c47] at hh
          refine r_aload_n C.1 C.2.1 dX16_readTable_117 rfl (lv_at hl 0 rfl) ?_
          refine r_cV (hroom := ⟨(Nat.le_of_ble_eq_true rfl), (Nat.le_of_ble_eq_true rfl)⟩) C X hm hs mlX16_192 mvX16_192 hh (vv := fun r => none) (hp := fun r => r) (fun b r hg => c_X16_next l G h39 b  r hg) rfl rfl (Nat.le_of_ble_eq_true rfl) (Nat.le_of_ble_eq_true rfl) (Nat.le_of_ble_eq_true rfl) hl.1 dX16_readTable_118 (fun b43 r42 H locs hgr42 hh hm hs => ?_)
          refine W.eq (g2 := F0 m 121 ls []) rfl ?_
          exact B121 _ _ _ _ _ _  hm hs (lv_sub hl [0, 1] rfl) hh
        · rw [if_pos c47] at hh
          refine r_aload_n C.1 C.2.1 dX16_readTable_111 rfl (lv_at hl 0 rfl) ?_
          refine lv_iconst (v := 3) C.1 C.2.1 dX16_readTable_112 (by decide) ?_
          refine r_cV (hroom := ⟨(Nat.le_of_ble_eq_true rfl), (Nat.le_of_ble_eq_true rfl)⟩) C X hm hs mlX16_189 mvX16_189 hh (vv := fun r => some (va_rf r.1)) (hp := fun r => r.2) (fun b r hg => c_X16_stop l G h39 b _ r hg) rfl rfl (Nat.le_of_ble_eq_true rfl) (Nat.le_of_ble_eq_true rfl) (Nat.le_of_ble_eq_true rfl) hl.1 dX16_readTable_113 (fun b45 r44 H locs hgr44 hh hm hs => ?_)
          refine W.eq (g2 := F0 m 116 ls [va_rf r44.1]) rfl ?_
          exact r_uthrow hQ C hx0 hm hs hh ⟨(Nat.le_of_ble_eq_true rfl), (Nat.le_of_ble_eq_true rfl)⟩ dX16_readTable_116
  unfold mX16_readTable at hh
  refine r_newG C hm hs nlX16_13 (Nat.le_of_ble_eq_true rfl) (Nat.le_of_ble_eq_true rfl) dX16_readTable_0 hh (fun h52 H hh hm hs => ?_)
  refine lv_dup C.1 C.2.1 dX16_readTable_3 (va_cat _) ?_
  refine r_cC C X hm hs mlX16_273 mcX16_273 hh (hp := fun r => r) (fun r hg => c_X14_init l G h52 _  r hg) rfl rfl (by simp [va_cat, vc_i, vc_l, vc_r]) (Nat.le_of_ble_eq_true rfl) (Nat.le_of_ble_eq_true rfl) ⟨(Nat.le_of_ble_eq_true rfl), (Nat.le_of_ble_eq_true rfl)⟩ hl.1 dX16_readTable_4 (fun r53 H locs hgr53 hh hm hs => ?_)
  refine r_astore_n (i := 1) (lv' := [(1, va_rf (some (hS h))), (0, va_rf (some a0))]) C.1 C.2.1 dX16_readTable_7 rfl hl (by decide) (by simp [va_cat, vc_i, vc_l, vc_r]) (fun ls hl => ?_)
  refine r_aload_n C.1 C.2.1 dX16_readTable_8 rfl (lv_at hl 1 rfl) ?_
  refine r_ldcS C X (i := 4) (by decide) rfl dX16_readTable_9 ?_
  refine r_cV (hroom := ⟨(Nat.le_of_ble_eq_true rfl), (Nat.le_of_ble_eq_true rfl)⟩) C X hm hs mlX16_174 mvX16_174 hh (vv := fun r => some (.int r)) (hp := fun r => r53) (fun b r hg => c_X16_isWord l G r53 b _ r hg) rfl rfl (Nat.le_of_ble_eq_true rfl) (Nat.le_of_ble_eq_true rfl) (Nat.le_of_ble_eq_true rfl) hl.1 dX16_readTable_11 (fun b56 r55 H locs hgr55 hh hm hs => ?_)
  refine W.eq (g2 := F0 m 14 ls [.int r55]) rfl ?_
  refine lv_if_eq (tgt := 40) C.1 C.2.1 dX16_readTable_14 (by decide) (fun c73 => ?_) (fun c73 => ?_)
  · rw [if_pos c73] at hh
    refine r_aload_n C.1 C.2.1 dX16_readTable_40 rfl (lv_at hl 1 rfl) ?_
    refine r_ldcS C X (i := 3) (by decide) rfl dX16_readTable_41 ?_
    refine r_uV C X hm hs mlX16_227 (in_tbl q_1624 rfl) mvX16_227 hh (vv := (fun _ => none)) (fun b r hg => c_X16_needWord l G r53 b _ r hg) rfl rfl (Nat.le_of_ble_eq_true rfl) (Nat.le_of_ble_eq_true rfl) (Nat.le_of_ble_eq_true rfl) hl.1 ⟨(Nat.le_of_ble_eq_true rfl), (Nat.le_of_ble_eq_true rfl)⟩ dX16_readTable_43 (fun q61 b58 h59 ce H locs _ hh hm hs e1 e2 e3 => r_uout hQ C hx0 hm hs e1 e2 e3 hh ⟨(Nat.le_of_ble_eq_true rfl), (Nat.le_of_ble_eq_true rfl)⟩) (fun b58 x60 h59 H locs _ hh hm hs => ?_)
    try dsimp only at hh
    refine W.eq (g2 := F0 m 46 ls []) rfl ?_
    exact B46 _ _ _ _ _ _  hm hs (lv_sub hl [1, 0] rfl) hh
  · rw [if_neg c73] at hh
    refine r_aload_n C.1 C.2.1 dX16_readTable_17 rfl (lv_at hl 1 rfl) ?_
    refine r_cV (hroom := ⟨(Nat.le_of_ble_eq_true rfl), (Nat.le_of_ble_eq_true rfl)⟩) C X hm hs mlX16_192 mvX16_192 hh (vv := fun r => none) (hp := fun r => r) (fun b r hg => c_X16_next l G r53 b  r hg) rfl rfl (Nat.le_of_ble_eq_true rfl) (Nat.le_of_ble_eq_true rfl) (Nat.le_of_ble_eq_true rfl) hl.1 dX16_readTable_18 (fun b63 r62 H locs hgr62 hh hm hs => ?_)
    refine W.eq (g2 := F0 m 21 ls []) rfl ?_
    refine r_aload_n C.1 C.2.1 dX16_readTable_21 rfl (lv_at hl 0 rfl) ?_
    refine r_aload_n C.1 C.2.1 dX16_readTable_22 rfl (lv_at hl 1 rfl) ?_
    refine r_aload_n C.1 C.2.1 dX16_readTable_23 rfl (lv_at hl 1 rfl) ?_
    refine r_getR C hm flX16_274 dX16_readTable_24 hh (fun x64 _ hh => ?_)
    refine r_uV C X hm hs mlX16_254 (in_tbl q_1668 rfl) mvX16_254 hh (vv := (fun v => some (.int v))) (fun b r hg => c_X16_readName l G r62 b _ r hg) rfl rfl (by simp [va_cat, vc_i, vc_l, vc_r]) (Nat.le_of_ble_eq_true rfl) (Nat.le_of_ble_eq_true rfl) hl.1 ⟨(Nat.le_of_ble_eq_true rfl), (Nat.le_of_ble_eq_true rfl)⟩ dX16_readTable_27 (fun q72 b66 h67 ce H locs _ hh hm hs e1 e2 e3 => r_uout hQ C hx0 hm hs e1 e2 e3 hh ⟨(Nat.le_of_ble_eq_true rfl), (Nat.le_of_ble_eq_true rfl)⟩) (fun b66 x68 h67 H locs _ hh hm hs => ?_)
    try dsimp only at hh
    refine W.eq (g2 := F0 m 30 ls [.int x68, va_rf (some (hS h))]) rfl ?_
    refine r_putI C hm hs flX16_277 (Or.inl fm_15_0) dX16_readTable_30 hh (fun h69 H locs _ hh hm hs => ?_)
    refine r_aload_n C.1 C.2.1 dX16_readTable_33 rfl (lv_at hl 1 rfl) ?_
    refine r_cV (hroom := ⟨(Nat.le_of_ble_eq_true rfl), (Nat.le_of_ble_eq_true rfl)⟩) C X hm hs mlX16_192 mvX16_192 hh (vv := fun r => none) (hp := fun r => r) (fun b r hg => c_X16_next l G h69 b  r hg) rfl rfl (Nat.le_of_ble_eq_true rfl) (Nat.le_of_ble_eq_true rfl) (Nat.le_of_ble_eq_true rfl) hl.1 dX16_readTable_34 (fun b71 r70 H locs hgr70 hh hm hs => ?_)
    refine W.eq (g2 := F0 m 37 ls []) rfl ?_
    refine lv_goto (tgt := 46) C.1 C.2.1 dX16_readTable_37 (by decide) ?_
    exact B46 _ _ _ _ _ _  hm hs (lv_sub hl [1, 0] rfl) hh
def mX16_feed_b76 (k23 : MHp → Nat → Int32 → Int32 → Int32 → Int32 → Int32 → Int32 → Option (Int32 × MHp)) (h : MHp) (a0 : Nat) (v1 : Int32) (v2 : Int32) (v3 : Int32) (v4 : Int32) (v5 : Int32) (v6 : Int32) (t0 : Int32) : Option (Int32 × MHp) := (gR 17 9 h (some a0)).bind fun x1 => (gI 17 10 h (some a0)).bind fun x2 => (pAI 22 h x1 x2 ((t0 >>> ((24 - (8 * (v6 - v6 / 4 * 4))) &&& 31)).toInt8.toInt32).toInt8.toInt32).bind fun h3 => (gI 17 10 h3 (some a0)).bind fun x4 => (pI 17 10 h3 (some a0) (x4 + 1)).bind fun h5 => k23 h5 a0 v1 v2 v3 v4 v5 (v6 + 1)
def mX16_feed_l23 : Nat → MHp → Nat → Int32 → Int32 → Int32 → Int32 → Int32 → Int32 → Option (Int32 × MHp)
  | 0, _, _, _, _, _, _, _, _ => none
  | n + 1, h, a0, v1, v2, v3, v4, v5, v6 => (if 20 ≤ v6 then (gI 17 10 h (some a0)).bind fun x6 => some (x6, h) else (if 4 ≤ v6 then (if 8 ≤ v6 then (if 12 ≤ v6 then (if 16 ≤ v6 then mX16_feed_b76 (mX16_feed_l23 n) h a0 v1 v2 v3 v4 v5 v6 v5 else mX16_feed_b76 (mX16_feed_l23 n) h a0 v1 v2 v3 v4 v5 v6 v4) else mX16_feed_b76 (mX16_feed_l23 n) h a0 v1 v2 v3 v4 v5 v6 v3) else mX16_feed_b76 (mX16_feed_l23 n) h a0 v1 v2 v3 v4 v5 v6 v2) else mX16_feed_b76 (mX16_feed_l23 n) h a0 v1 v2 v3 v4 v5 v6 v1))
def mX16_feed (h : MHp) (a0 : Nat) (a1 : Int32) (a2 : Int32) (a3 : Int32) (a4 : Int32) (a5 : Int32) : Option (Int32 × MHp) := (pI 17 0 h (some a0) 0).bind fun h12 => (gI 17 10 h12 (some a0)).bind fun x13 => (if (x13 + 20) ≤ 500 then mX16_feed_l23 FUEL h12 a0 a1 a2 a3 a4 a5 0 else some ((-1), h12))
set_option maxRecDepth 100000 in
set_option maxHeartbeats 4000000 in
theorem c_X16_feed (l : Launch) (G : Env0) (h : MHp) (a0 : Nat) (a1 : Int32) (a2 : Int32) (a3 : Int32) (a4 : Int32) (a5 : Int32) (res : Int32 × MHp) (hh : mX16_feed h a0 a1 a2 a3 a4 a5 = some res) : MG l yX16_feed cX16_feed 8 (some .int) 0 0 0 0 G h [.ref a0, .int a1, .int a2, .int a3, .int a4, .int a5] (some (.int res.1)) (res.2) := by
  refine MG_of (own := RX16) (plainFor_of_name (by decide)) rfl (Nat.le_of_ble_eq_true rfl) ?_
  intro p e s m args below meth c Q ls hQ C X hin hm hs hl hr
  have hl : lv_has ls 8 [(0, va_rf (some a0)), (1, .int a1), (2, .int a2), (3, .int a3), (4, .int a4), (5, .int a5)] := hl
  have B76 : ∀ (k23 : MHp → Nat → Int32 → Int32 → Int32 → Int32 → Int32 → Int32 → Option (Int32 × MHp)), (∀ (h : MHp) (H : Heap) (locs : List Loc) (ls : Array Slot) (a0 : Nat) (v1 : Int32) (v2 : Int32) (v3 : Int32) (v4 : Int32) (v5 : Int32) (v6 : Int32) , mHp (gD G) (gC G) (gB G) h H → va_S (fun q => gB G ≤ q) s.heap H locs → lv_has ls 8 [(0, va_rf (some a0)), (1, .int v1), (2, .int v2), (3, .int v3), (4, .int v4), (5, .int v5), (6, .int v6)] → k23 h a0 v1 v2 v3 v4 v5 v6 = some res → W p l e ({ frames := 0, cells := 0, slots := 0, locals := 0 }) s m args below meth c H locs 0 0 Q (F0 m 23 ls [])) → ∀ (h : MHp) (H : Heap) (locs : List Loc) (ls : Array Slot) (a0 : Nat) (v1 : Int32) (v2 : Int32) (v3 : Int32) (v4 : Int32) (v5 : Int32) (v6 : Int32) (t0 : Int32) , mHp (gD G) (gC G) (gB G) h H → va_S (fun q => gB G ≤ q) s.heap H locs → lv_has ls 8 [(0, va_rf (some a0)), (1, .int v1), (2, .int v2), (3, .int v3), (4, .int v4), (5, .int v5), (6, .int v6)] → mX16_feed_b76 k23 h a0 v1 v2 v3 v4 v5 v6 t0 = some res → W p l e ({ frames := 0, cells := 0, slots := 0, locals := 0 }) s m args below meth c H locs 0 0 Q (F0 m 76 ls [.int t0]) := by
    intro k23 hk23 h H locs ls a0 v1 v2 v3 v4 v5 v6 t0 hm hs hl hh
    unfold mX16_feed_b76 at hh
    refine lv_istore (i := 7) (lv' := [(7, .int t0), (0, va_rf (some a0)), (1, .int v1), (2, .int v2), (3, .int v3), (4, .int v4), (5, .int v5), (6, .int v6)]) C.1 C.2.1 dX16_feed_76 hl (by decide) rfl (fun ls hl => ?_)
    refine r_aload_n C.1 C.2.1 dX16_feed_78 rfl (lv_at hl 1 rfl) ?_
    refine r_getR C hm flX16_26 dX16_feed_79 hh (fun x1 _ hh => ?_)
    refine r_aload_n C.1 C.2.1 dX16_feed_82 rfl (lv_at hl 1 rfl) ?_
    refine r_getI C hm flX16_287 dX16_feed_83 hh (fun x2 _ hh => ?_)
    refine lv_iload C.1 C.2.1 dX16_feed_86 (lv_at hl 0 rfl) ?_
    refine lv_bipush (v := 24) C.1 C.2.1 dX16_feed_88 (by decide) ?_
    refine lv_bipush (v := 8) C.1 C.2.1 dX16_feed_90 (by decide) ?_
    refine lv_iload C.1 C.2.1 dX16_feed_92 (lv_at hl 7 rfl) ?_
    refine lv_iconst (v := 4) C.1 C.2.1 dX16_feed_94 (by decide) ?_
    refine lv_irem C.1 C.2.1 dX16_feed_95 (by decide) ?_
    refine lv_imul C.1 C.2.1 dX16_feed_96 ?_
    refine lv_isub C.1 C.2.1 dX16_feed_97 ?_
    refine lv_ishr C.1 C.2.1 dX16_feed_98 ?_
    refine lv_i2b (v := (t0 >>> ((24 - (8 * (v6 - v6 / 4 * 4))) &&& 31)).toInt8.toInt32) C.1 C.2.1 dX16_feed_99 rfl ?_
    refine r_bast C hm hs dX16_feed_100 hh (fun h3 H locs _ hh hm hs => ?_)
    refine r_aload_n C.1 C.2.1 dX16_feed_101 rfl (lv_at hl 1 rfl) ?_
    refine lv_dup C.1 C.2.1 dX16_feed_102 (va_cat _) ?_
    refine r_getI C hm flX16_287 dX16_feed_103 hh (fun x4 _ hh => ?_)
    refine lv_iconst (v := 1) C.1 C.2.1 dX16_feed_106 (by decide) ?_
    refine lv_iadd C.1 C.2.1 dX16_feed_107 ?_
    refine r_putI C hm hs flX16_287 (Or.inl fm_17_10) dX16_feed_108 hh (fun h5 H locs _ hh hm hs => ?_)
    refine lv_iinc (v := (v6 + 1)) (lv' := [(6, .int (v6 + 1)), (7, .int t0), (0, va_rf (some a0)), (1, .int v1), (2, .int v2), (3, .int v3), (4, .int v4), (5, .int v5)]) C.1 C.2.1 dX16_feed_111 hl (k := 7) rfl rfl (by decide) rfl (fun ls hl => ?_)
    refine lv_goto (tgt := 23) C.1 C.2.1 dX16_feed_114 (by decide) ?_
    exact hk23 _ _ _ _ _ _ _ _ _ _ _  hm hs (lv_sub hl [2, 3, 4, 5, 6, 7, 0] rfl) hh
  have B23 : ∀ n : Nat, ∀ (h : MHp) (H : Heap) (locs : List Loc) (ls : Array Slot) (a0 : Nat) (v1 : Int32) (v2 : Int32) (v3 : Int32) (v4 : Int32) (v5 : Int32) (v6 : Int32) , mHp (gD G) (gC G) (gB G) h H → va_S (fun q => gB G ≤ q) s.heap H locs → lv_has ls 8 [(0, va_rf (some a0)), (1, .int v1), (2, .int v2), (3, .int v3), (4, .int v4), (5, .int v5), (6, .int v6)] → mX16_feed_l23 n h a0 v1 v2 v3 v4 v5 v6 = some res → W p l e ({ frames := 0, cells := 0, slots := 0, locals := 0 }) s m args below meth c H locs 0 0 Q (F0 m 23 ls []) := by
    intro n
    induction n with
    | zero => intro h H locs ls a0 v1 v2 v3 v4 v5 v6 hm hs hl hh; cases hh
    | succ n ih =>
      intro h H locs ls a0 v1 v2 v3 v4 v5 v6 hm hs hl hh
      unfold mX16_feed_l23 at hh
      refine lv_iload C.1 C.2.1 dX16_feed_23 (lv_at hl 6 rfl) ?_
      refine lv_bipush (v := 20) C.1 C.2.1 dX16_feed_25 (by decide) ?_
      refine lv_icmp_ge (tgt := 117) C.1 C.2.1 dX16_feed_27 (by decide) (fun c11 => ?_) (fun c11 => ?_)
      · rw [if_pos c11] at hh
        refine r_aload_n C.1 C.2.1 dX16_feed_117 rfl (lv_at hl 0 rfl) ?_
        refine r_getI C hm flX16_287 dX16_feed_118 hh (fun x6 _ hh => ?_)
        exact r_iretW hQ C hr hm hs hh dX16_feed_121
      · rw [if_neg c11] at hh
        refine lv_iload C.1 C.2.1 dX16_feed_30 (lv_at hl 6 rfl) ?_
        refine lv_iconst (v := 4) C.1 C.2.1 dX16_feed_32 (by decide) ?_
        refine lv_icmp_ge (tgt := 40) C.1 C.2.1 dX16_feed_33 (by decide) (fun c10 => ?_) (fun c10 => ?_)
        · rw [if_pos c10] at hh
          refine lv_iload C.1 C.2.1 dX16_feed_40 (lv_at hl 6 rfl) ?_
          refine lv_bipush (v := 8) C.1 C.2.1 dX16_feed_42 (by decide) ?_
          refine lv_icmp_ge (tgt := 51) C.1 C.2.1 dX16_feed_44 (by decide) (fun c9 => ?_) (fun c9 => ?_)
          · rw [if_pos c9] at hh
            refine lv_iload C.1 C.2.1 dX16_feed_51 (lv_at hl 6 rfl) ?_
            refine lv_bipush (v := 12) C.1 C.2.1 dX16_feed_53 (by decide) ?_
            refine lv_icmp_ge (tgt := 62) C.1 C.2.1 dX16_feed_55 (by decide) (fun c8 => ?_) (fun c8 => ?_)
            · rw [if_pos c8] at hh
              refine lv_iload C.1 C.2.1 dX16_feed_62 (lv_at hl 6 rfl) ?_
              refine lv_bipush (v := 16) C.1 C.2.1 dX16_feed_64 (by decide) ?_
              refine lv_icmp_ge (tgt := 74) C.1 C.2.1 dX16_feed_66 (by decide) (fun c7 => ?_) (fun c7 => ?_)
              · rw [if_pos c7] at hh
                refine lv_iload C.1 C.2.1 dX16_feed_74 (lv_at hl 5 rfl) ?_
                exact B76 _ ih _ _ _ _ _ _ _ _ _ _ _ _  hm hs (lv_sub hl [0, 1, 2, 3, 4, 5, 6] rfl) hh
              · rw [if_neg c7] at hh
                refine lv_iload C.1 C.2.1 dX16_feed_69 (lv_at hl 4 rfl) ?_
                refine lv_goto (tgt := 76) C.1 C.2.1 dX16_feed_71 (by decide) ?_
                exact B76 _ ih _ _ _ _ _ _ _ _ _ _ _ _  hm hs (lv_sub hl [0, 1, 2, 3, 4, 5, 6] rfl) hh
            · rw [if_neg c8] at hh
              refine lv_iload_n C.1 C.2.1 dX16_feed_58 rfl (lv_at hl 3 rfl) ?_
              refine lv_goto (tgt := 76) C.1 C.2.1 dX16_feed_59 (by decide) ?_
              exact B76 _ ih _ _ _ _ _ _ _ _ _ _ _ _  hm hs (lv_sub hl [0, 1, 2, 3, 4, 5, 6] rfl) hh
          · rw [if_neg c9] at hh
            refine lv_iload_n C.1 C.2.1 dX16_feed_47 rfl (lv_at hl 2 rfl) ?_
            refine lv_goto (tgt := 76) C.1 C.2.1 dX16_feed_48 (by decide) ?_
            exact B76 _ ih _ _ _ _ _ _ _ _ _ _ _ _  hm hs (lv_sub hl [0, 1, 2, 3, 4, 5, 6] rfl) hh
        · rw [if_neg c10] at hh
          refine lv_iload_n C.1 C.2.1 dX16_feed_36 rfl (lv_at hl 1 rfl) ?_
          refine lv_goto (tgt := 76) C.1 C.2.1 dX16_feed_37 (by decide) ?_
          exact B76 _ ih _ _ _ _ _ _ _ _ _ _ _ _  hm hs (lv_sub hl [0, 1, 2, 3, 4, 5, 6] rfl) hh
  unfold mX16_feed at hh
  refine r_aload_n C.1 C.2.1 dX16_feed_0 rfl (lv_at hl 0 rfl) ?_
  refine lv_iconst (v := 0) C.1 C.2.1 dX16_feed_1 (by decide) ?_
  refine r_putI C hm hs flX16_109 (Or.inl fm_17_0) dX16_feed_2 hh (fun h12 H locs _ hh hm hs => ?_)
  refine r_aload_n C.1 C.2.1 dX16_feed_5 rfl (lv_at hl 0 rfl) ?_
  refine r_getI C hm flX16_287 dX16_feed_6 hh (fun x13 _ hh => ?_)
  refine lv_bipush (v := 20) C.1 C.2.1 dX16_feed_9 (by decide) ?_
  refine lv_iadd C.1 C.2.1 dX16_feed_11 ?_
  refine lv_sipush (v := 500) C.1 C.2.1 dX16_feed_12 (by decide) ?_
  refine lv_icmp_le (tgt := 20) C.1 C.2.1 dX16_feed_15 (by decide) (fun c14 => ?_) (fun c14 => ?_)
  · rw [if_pos c14] at hh
    refine lv_iconst (v := 0) C.1 C.2.1 dX16_feed_20 (by decide) ?_
    refine lv_istore (i := 6) (lv' := [(6, .int 0), (0, va_rf (some a0)), (1, .int a1), (2, .int a2), (3, .int a3), (4, .int a4), (5, .int a5)]) C.1 C.2.1 dX16_feed_21 hl (by decide) rfl (fun ls hl => ?_)
    exact B23 FUEL _ _ _ _ _ _ _ _ _ _ _  hm hs (lv_sub hl [1, 2, 3, 4, 5, 6, 0] rfl) hh
  · rw [if_neg c14] at hh
    refine lv_iconst (v := (-1)) C.1 C.2.1 dX16_feed_18 (by decide) ?_
    exact r_iretW hQ C hr hm hs hh dX16_feed_19
def mX16_begins (h : MHp) (a0 : Nat) (a1 : Int32) : Option (MHp) := (pI 17 11 h (some a0) a1).bind fun h1 => (pI 17 10 h1 (some a0) 0).bind fun h2 => (pI 17 12 h2 (some a0) 0).bind fun h3 => (pI 17 3 h3 (some a0) 0).bind fun h4 => some h4
set_option maxRecDepth 100000 in
set_option maxHeartbeats 4000000 in
theorem c_X16_begins (l : Launch) (G : Env0) (h : MHp) (a0 : Nat) (a1 : Int32) (res : MHp) (hh : mX16_begins h a0 a1 = some res) : MG l yX16_begins cX16_begins 2 none 0 0 0 0 G h [.ref a0, .int a1] (none) (res) := by
  refine MG_of (own := RX16) (plainFor_of_name (by decide)) rfl (Nat.le_of_ble_eq_true rfl) ?_
  intro p e s m args below meth c Q ls hQ C X hin hm hs hl hr
  have hl : lv_has ls 2 [(0, va_rf (some a0)), (1, .int a1)] := hl
  unfold mX16_begins at hh
  refine r_aload_n C.1 C.2.1 dX16_begins_0 rfl (lv_at hl 0 rfl) ?_
  refine lv_iload_n C.1 C.2.1 dX16_begins_1 rfl (lv_at hl 1 rfl) ?_
  refine r_putI C hm hs flX16_126 (Or.inl fm_17_11) dX16_begins_2 hh (fun h1 H locs _ hh hm hs => ?_)
  refine r_aload_n C.1 C.2.1 dX16_begins_5 rfl (lv_at hl 0 rfl) ?_
  refine lv_iconst (v := 0) C.1 C.2.1 dX16_begins_6 (by decide) ?_
  refine r_putI C hm hs flX16_287 (Or.inl fm_17_10) dX16_begins_7 hh (fun h2 H locs _ hh hm hs => ?_)
  refine r_aload_n C.1 C.2.1 dX16_begins_10 rfl (lv_at hl 0 rfl) ?_
  refine lv_iconst (v := 0) C.1 C.2.1 dX16_begins_11 (by decide) ?_
  refine r_putI C hm hs flX16_141 (Or.inl fm_17_12) dX16_begins_12 hh (fun h3 H locs _ hh hm hs => ?_)
  refine r_aload_n C.1 C.2.1 dX16_begins_15 rfl (lv_at hl 0 rfl) ?_
  refine lv_iconst (v := 0) C.1 C.2.1 dX16_begins_16 (by decide) ?_
  refine r_putI C hm hs flX16_290 (Or.inl fm_17_3) dX16_begins_17 hh (fun h4 H locs _ hh hm hs => ?_)
  exact r_vretW hQ C hr hm hs hh dX16_begins_20
def mX16_wrong (h : MHp) (a0 : Nat) (a1 : Option Nat) : Option (Int32 × MHp) := (gI 14 6 h a1).bind fun x1 => (pI 17 3 h (some a0) x1).bind fun h2 => (pI 17 1 h2 (some a0) 4).bind fun h3 => (gI 14 7 h3 a1).bind fun x4 => (pI 17 2 h3 (some a0) x4).bind fun h5 => some ((-1), h5)
set_option maxRecDepth 100000 in
set_option maxHeartbeats 4000000 in
theorem c_X16_wrong (l : Launch) (G : Env0) (h : MHp) (a0 : Nat) (a1 : Option Nat) (res : Int32 × MHp) (hh : mX16_wrong h a0 a1 = some res) : MG l yX16_wrong cX16_wrong 2 (some .int) 0 0 0 0 G h [.ref a0, va_rf a1] (some (.int res.1)) (res.2) := by
  refine MG_of (own := RX16) (plainFor_of_name (by decide)) rfl (by simp [lg_sl, va_cat, vc_i, vc_l, vc_r]) ?_
  intro p e s m args below meth c Q ls hQ C X hin hm hs hl hr
  have hl : lv_has ls 2 [(0, .ref a0), (1, va_rf a1)] := by simpa [lv_args, va_cat, vc_i, vc_l, vc_r] using hl
  have hl : lv_has ls 2 [(0, va_rf (some a0)), (1, va_rf a1)] := hl
  unfold mX16_wrong at hh
  refine r_aload_n C.1 C.2.1 dX16_wrong_0 rfl (lv_at hl 0 rfl) ?_
  refine r_aload_n C.1 C.2.1 dX16_wrong_1 rfl (lv_at hl 1 rfl) ?_
  refine r_getI C hm flX16_119 dX16_wrong_2 hh (fun x1 _ hh => ?_)
  refine r_putI C hm hs flX16_290 (Or.inl fm_17_3) dX16_wrong_5 hh (fun h2 H locs _ hh hm hs => ?_)
  refine r_aload_n C.1 C.2.1 dX16_wrong_8 rfl (lv_at hl 0 rfl) ?_
  refine lv_iconst (v := 4) C.1 C.2.1 dX16_wrong_9 (by decide) ?_
  refine r_putI C hm hs flX16_112 (Or.inl fm_17_1) dX16_wrong_10 hh (fun h3 H locs _ hh hm hs => ?_)
  refine r_aload_n C.1 C.2.1 dX16_wrong_13 rfl (lv_at hl 0 rfl) ?_
  refine r_aload_n C.1 C.2.1 dX16_wrong_14 rfl (lv_at hl 1 rfl) ?_
  refine r_getI C hm flX16_125 dX16_wrong_15 hh (fun x4 _ hh => ?_)
  refine r_putI C hm hs flX16_9 (Or.inl fm_17_2) dX16_wrong_18 hh (fun h5 H locs _ hh hm hs => ?_)
  refine lv_iconst (v := (-1)) C.1 C.2.1 dX16_wrong_21 (by decide) ?_
  exact r_iretW hQ C hr hm hs hh dX16_wrong_22
def mX16_book_b17 (h : MHp) (a0 : Nat) : Option (Int32 × MHp) := (rcv 17 h (some a0)).bind fun b2 => (mX16_refused h b2 2).bind fun r1 => some (r1.1, r1.2)
def mX16_book_l108 : Nat → MHp → Nat → Int32 → Option (Int32 × MHp)
  | 0, _, _, _ => none
  | n + 1, h, a0, v2 => (if 60 ≤ v2 then (pI 17 49 h (some a0) 0).bind fun h3 => (pI 17 40 h3 (some a0) 0).bind fun h4 => (pI 17 37 h4 (some a0) 3).bind fun h5 => (pI 17 38 h5 (some a0) 3).bind fun h6 => (pI 17 39 h6 (some a0) 10).bind fun h7 => (gR 17 4 h7 (some a0)).bind fun x8 => (gI 13 0 h7 x8).bind fun x9 => (rcv 17 h7 (some a0)).bind fun b11 => (mX16_done h7 b11 x9).bind fun r10 => some (r10.1, r10.2) else (gR 17 36 h (some a0)).bind fun x12 => (pAI 20 h x12 v2 0).bind fun h13 => mX16_book_l108 n h13 a0 (v2 + 1))
def mX16_book_l87 : Nat → MHp → Nat → Int32 → Option (Int32 × MHp)
  | 0, _, _, _ => none
  | n + 1, h, a0, v2 => (if 10 ≤ v2 then mX16_book_l108 FUEL h a0 0 else (gR 17 35 h (some a0)).bind fun x15 => (pAI 20 h x15 v2 0).bind fun h16 => mX16_book_l87 n h16 a0 (v2 + 1))
def mX16_book (h : MHp) (a0 : Nat) (a1 : Int32) : Option (Int32 × MHp) := (pI 17 0 h (some a0) 0).bind fun h18 => (if a1 < 0 then mX16_book_b17 h18 a0 else (gI 17 10 h18 (some a0)).bind fun x19 => (if a1 ≤ x19 then (rcv 17 h18 (some a0)).bind fun b21 => (mX16_begins h18 b21 a1).bind fun r20 => (some (nO r20 13 6)).bind fun h22 => (mX12_init h22 (hS r20)).bind fun r23 => (pR 17 5 r23 (some a0) (some (hS r20))).bind fun h25 => (rcv 17 h25 (some a0)).bind fun b27 => (mX16_next h25 b27).bind fun r26 => (rcv 17 r26 (some a0)).bind fun b29 => (mX16_readBook r26 b29).bind fun r28 => (match r28 with | (Sum.inl x31, h30) => (gR 17 5 h30 (some a0)).bind fun x32 => (pR 17 4 h30 (some a0) x32).bind fun h33 => (pI 17 18 h33 (some a0) 0).bind fun h34 => (pI 17 7 h34 (some a0) 0).bind fun h35 => (pI 17 19 h35 (some a0) 0).bind fun h36 => (pI 17 34 h36 (some a0) (-1)).bind fun h37 => mX16_book_l87 FUEL h37 a0 0 | (Sum.inr q38, h30) => (rcv 17 h30 (some a0)).bind fun b40 => (mX16_wrong h30 b40 (some q38)).bind fun r39 => some (r39.1, r39.2)) else mX16_book_b17 h18 a0))
set_option maxRecDepth 100000 in
set_option maxHeartbeats 4000000 in
theorem c_X16_book (l : Launch) (G : Env0) (h : MHp) (a0 : Nat) (a1 : Int32) (res : Int32 × MHp) (hh : mX16_book h a0 a1 = some res) : MGW l yX16_book cX16_book 3 (some .int) [(39, 47, 50, 19)] 11 236 110 1149 G h [.ref a0, .int a1] (some (.int res.1)) (res.2) := by
  refine MGW_of (own := RX16) (by decide) rfl (Nat.le_of_ble_eq_true rfl) ?_
  intro p e s m args below meth c Q ls hQ C X htab hm hs hl hr
  have hl : lv_has ls 3 [(0, va_rf (some a0)), (1, .int a1)] := hl
  have B17 : ∀ (h : MHp) (H : Heap) (locs : List Loc) (ls : Array Slot) (a0 : Nat) , mHp (gD G) (gC G) (gB G) h H → va_S (fun q => gB G ≤ q) s.heap H locs → lv_has ls 3 [(0, va_rf (some a0))] → mX16_book_b17 h a0 = some res → W p l e ({ frames := 11, cells := 110, slots := 1149, locals := 236 }) s m args below meth c H locs 0 0 Q (F0 m 17 ls []) := by
    intro h H locs ls a0 hm hs hl hh
    unfold mX16_book_b17 at hh
    refine r_aload_n C.1 C.2.1 dX16_book_17 rfl (lv_at hl 0 rfl) ?_
    refine lv_iconst (v := 2) C.1 C.2.1 dX16_book_18 (by decide) ?_
    refine r_cV (hroom := ⟨(Nat.le_of_ble_eq_true rfl), (Nat.le_of_ble_eq_true rfl)⟩) C X hm hs mlX16_293 mvX16_293 hh (vv := fun r => some (.int r.1)) (hp := fun r => r.2) (fun b r hg => c_X16_refused l G h b _ r hg) rfl rfl (Nat.le_of_ble_eq_true rfl) (Nat.le_of_ble_eq_true rfl) (Nat.le_of_ble_eq_true rfl) hl.1 dX16_book_19 (fun b2 r1 H locs hgr1 hh hm hs => ?_)
    refine W.eq (g2 := F0 m 22 ls [.int r1.1]) rfl ?_
    refine W.widen (k := 110) (n := 1149) (by omega) (by omega) ?_
    exact r_iretW hQ C hr hm hs hh dX16_book_22
  have B108 : ∀ n : Nat, ∀ (h : MHp) (H : Heap) (locs : List Loc) (ls : Array Slot) (a0 : Nat) (v2 : Int32) , mHp (gD G) (gC G) (gB G) h H → va_S (fun q => gB G ≤ q) s.heap H locs → lv_has ls 3 [(0, va_rf (some a0)), (2, .int v2)] → mX16_book_l108 n h a0 v2 = some res → W p l e ({ frames := 11, cells := 110, slots := 1149, locals := 236 }) s m args below meth c H locs 110 1149 Q (F0 m 108 ls []) := by
    intro n
    induction n with
    | zero => intro h H locs ls a0 v2 hm hs hl hh; cases hh
    | succ n ih =>
      intro h H locs ls a0 v2 hm hs hl hh
      unfold mX16_book_l108 at hh
      refine lv_iload_n C.1 C.2.1 dX16_book_108 rfl (lv_at hl 1 rfl) ?_
      refine lv_bipush (v := 60) C.1 C.2.1 dX16_book_109 (by decide) ?_
      refine lv_icmp_ge (tgt := 127) C.1 C.2.1 dX16_book_111 (by decide) (fun c14 => ?_) (fun c14 => ?_)
      · rw [if_pos c14] at hh
        refine r_aload_n C.1 C.2.1 dX16_book_127 rfl (lv_at hl 0 rfl) ?_
        refine lv_iconst (v := 0) C.1 C.2.1 dX16_book_128 (by decide) ?_
        refine r_putI C hm hs flX16_317 (Or.inl fm_17_49) dX16_book_129 hh (fun h3 H locs _ hh hm hs => ?_)
        refine r_aload_n C.1 C.2.1 dX16_book_132 rfl (lv_at hl 0 rfl) ?_
        refine lv_iconst (v := 0) C.1 C.2.1 dX16_book_133 (by decide) ?_
        refine r_putI C hm hs flX16_320 (Or.inl fm_17_40) dX16_book_134 hh (fun h4 H locs _ hh hm hs => ?_)
        refine r_aload_n C.1 C.2.1 dX16_book_137 rfl (lv_at hl 0 rfl) ?_
        refine lv_iconst (v := 3) C.1 C.2.1 dX16_book_138 (by decide) ?_
        refine r_putI C hm hs flX16_82 (Or.inl fm_17_37) dX16_book_139 hh (fun h5 H locs _ hh hm hs => ?_)
        refine r_aload_n C.1 C.2.1 dX16_book_142 rfl (lv_at hl 0 rfl) ?_
        refine lv_iconst (v := 3) C.1 C.2.1 dX16_book_143 (by decide) ?_
        refine r_putI C hm hs flX16_85 (Or.inl fm_17_38) dX16_book_144 hh (fun h6 H locs _ hh hm hs => ?_)
        refine r_aload_n C.1 C.2.1 dX16_book_147 rfl (lv_at hl 0 rfl) ?_
        refine lv_bipush (v := 10) C.1 C.2.1 dX16_book_148 (by decide) ?_
        refine r_putI C hm hs flX16_88 (Or.inl fm_17_39) dX16_book_150 hh (fun h7 H locs _ hh hm hs => ?_)
        refine r_aload_n C.1 C.2.1 dX16_book_153 rfl (lv_at hl 0 rfl) ?_
        refine r_aload_n C.1 C.2.1 dX16_book_154 rfl (lv_at hl 0 rfl) ?_
        refine r_getR C hm flX16_274 dX16_book_155 hh (fun x8 _ hh => ?_)
        refine r_getI C hm flX16_218 dX16_book_158 hh (fun x9 _ hh => ?_)
        refine r_cV (hroom := ⟨(Nat.le_of_ble_eq_true rfl), (Nat.le_of_ble_eq_true rfl)⟩) C X hm hs mlX16_323 mvX16_323 hh (vv := fun r => some (.int r.1)) (hp := fun r => r.2) (fun b r hg => c_X16_done l G h7 b _ r hg) rfl rfl (Nat.le_of_ble_eq_true rfl) (Nat.le_of_ble_eq_true rfl) (Nat.le_of_ble_eq_true rfl) hl.1 dX16_book_161 (fun b11 r10 H locs hgr10 hh hm hs => ?_)
        refine W.eq (g2 := F0 m 164 ls [.int r10.1]) rfl ?_
        refine W.widen (k := 110) (n := 1149) (by omega) (by omega) ?_
        exact r_iretW hQ C hr hm hs hh dX16_book_164
      · rw [if_neg c14] at hh
        refine r_aload_n C.1 C.2.1 dX16_book_114 rfl (lv_at hl 0 rfl) ?_
        refine r_getR C hm flX16_79 dX16_book_115 hh (fun x12 _ hh => ?_)
        refine lv_iload_n C.1 C.2.1 dX16_book_118 rfl (lv_at hl 1 rfl) ?_
        refine lv_iconst (v := 0) C.1 C.2.1 dX16_book_119 (by decide) ?_
        refine r_ast C hm hs dX16_book_120 hh (fun h13 H locs _ hh hm hs => ?_)
        refine lv_iinc (v := (v2 + 1)) (lv' := [(2, .int (v2 + 1)), (0, va_rf (some a0))]) C.1 C.2.1 dX16_book_121 hl (k := 1) rfl rfl (by decide) rfl (fun ls hl => ?_)
        refine lv_goto (tgt := 108) C.1 C.2.1 dX16_book_124 (by decide) ?_
        exact ih _ _ _ _ _ _  hm hs (lv_sub hl [1, 0] rfl) hh
  have B87 : ∀ n : Nat, ∀ (h : MHp) (H : Heap) (locs : List Loc) (ls : Array Slot) (a0 : Nat) (v2 : Int32) , mHp (gD G) (gC G) (gB G) h H → va_S (fun q => gB G ≤ q) s.heap H locs → lv_has ls 3 [(0, va_rf (some a0)), (2, .int v2)] → mX16_book_l87 n h a0 v2 = some res → W p l e ({ frames := 11, cells := 110, slots := 1149, locals := 236 }) s m args below meth c H locs 110 1149 Q (F0 m 87 ls []) := by
    intro n
    induction n with
    | zero => intro h H locs ls a0 v2 hm hs hl hh; cases hh
    | succ n ih =>
      intro h H locs ls a0 v2 hm hs hl hh
      unfold mX16_book_l87 at hh
      refine lv_iload_n C.1 C.2.1 dX16_book_87 rfl (lv_at hl 1 rfl) ?_
      refine lv_bipush (v := 10) C.1 C.2.1 dX16_book_88 (by decide) ?_
      refine lv_icmp_ge (tgt := 106) C.1 C.2.1 dX16_book_90 (by decide) (fun c17 => ?_) (fun c17 => ?_)
      · rw [if_pos c17] at hh
        refine lv_iconst (v := 0) C.1 C.2.1 dX16_book_106 (by decide) ?_
        refine lv_istore_n (i := 2) (lv' := [(2, .int 0), (0, va_rf (some a0))]) C.1 C.2.1 dX16_book_107 rfl hl (by decide) rfl (fun ls hl => ?_)
        exact B108 FUEL _ _ _ _ _ _  hm hs (lv_sub hl [1, 0] rfl) hh
      · rw [if_neg c17] at hh
        refine r_aload_n C.1 C.2.1 dX16_book_93 rfl (lv_at hl 0 rfl) ?_
        refine r_getR C hm flX16_76 dX16_book_94 hh (fun x15 _ hh => ?_)
        refine lv_iload_n C.1 C.2.1 dX16_book_97 rfl (lv_at hl 1 rfl) ?_
        refine lv_iconst (v := 0) C.1 C.2.1 dX16_book_98 (by decide) ?_
        refine r_ast C hm hs dX16_book_99 hh (fun h16 H locs _ hh hm hs => ?_)
        refine lv_iinc (v := (v2 + 1)) (lv' := [(2, .int (v2 + 1)), (0, va_rf (some a0))]) C.1 C.2.1 dX16_book_100 hl (k := 1) rfl rfl (by decide) rfl (fun ls hl => ?_)
        refine lv_goto (tgt := 87) C.1 C.2.1 dX16_book_103 (by decide) ?_
        exact ih _ _ _ _ _ _  hm hs (lv_sub hl [1, 0] rfl) hh
  unfold mX16_book at hh
  refine r_aload_n C.1 C.2.1 dX16_book_0 rfl (lv_at hl 0 rfl) ?_
  refine lv_iconst (v := 0) C.1 C.2.1 dX16_book_1 (by decide) ?_
  refine r_putI C hm hs flX16_109 (Or.inl fm_17_0) dX16_book_2 hh (fun h18 H locs _ hh hm hs => ?_)
  refine lv_iload_n C.1 C.2.1 dX16_book_5 rfl (lv_at hl 1 rfl) ?_
  refine lv_if_lt (tgt := 17) C.1 C.2.1 dX16_book_6 (by decide) (fun c42 => ?_) (fun c42 => ?_)
  · rw [if_pos c42] at hh
    exact B17 _ _ _ _ _  hm hs (lv_sub hl [0] rfl) hh
  · rw [if_neg c42] at hh
    refine lv_iload_n C.1 C.2.1 dX16_book_9 rfl (lv_at hl 1 rfl) ?_
    refine r_aload_n C.1 C.2.1 dX16_book_10 rfl (lv_at hl 0 rfl) ?_
    refine r_getI C hm flX16_287 dX16_book_11 hh (fun x19 _ hh => ?_)
    refine lv_icmp_le (tgt := 23) C.1 C.2.1 dX16_book_14 (by decide) (fun c41 => ?_) (fun c41 => ?_)
    · rw [if_pos c41] at hh
      refine r_aload_n C.1 C.2.1 dX16_book_23 rfl (lv_at hl 0 rfl) ?_
      refine lv_iload_n C.1 C.2.1 dX16_book_24 rfl (lv_at hl 1 rfl) ?_
      refine r_cV (hroom := ⟨(Nat.le_of_ble_eq_true rfl), (Nat.le_of_ble_eq_true rfl)⟩) C X hm hs mlX16_296 mvX16_296 hh (vv := fun r => none) (hp := fun r => r) (fun b r hg => c_X16_begins l G h18 b _ r hg) rfl rfl (Nat.le_of_ble_eq_true rfl) (Nat.le_of_ble_eq_true rfl) (Nat.le_of_ble_eq_true rfl) hl.1 dX16_book_25 (fun b21 r20 H locs hgr20 hh hm hs => ?_)
      refine W.eq (g2 := F0 m 28 ls []) rfl ?_
      refine r_aload_n C.1 C.2.1 dX16_book_28 rfl (lv_at hl 0 rfl) ?_
      refine r_newG C hm hs nlX16_213 (Nat.le_of_ble_eq_true rfl) (Nat.le_of_ble_eq_true rfl) dX16_book_29 hh (fun h22 H hh hm hs => ?_)
      refine lv_dup C.1 C.2.1 dX16_book_32 (va_cat _) ?_
      refine r_cC C X hm hs mlX16_300 mcX16_300 hh (hp := fun r => r) (fun r hg => c_X12_init l G h22 _  r hg) rfl rfl (by simp [va_cat, vc_i, vc_l, vc_r]) (Nat.le_of_ble_eq_true rfl) (Nat.le_of_ble_eq_true rfl) ⟨(Nat.le_of_ble_eq_true rfl), (Nat.le_of_ble_eq_true rfl)⟩ hl.1 dX16_book_33 (fun r23 H locs hgr23 hh hm hs => ?_)
      refine r_putR C hm hs flX16_208 (Or.inl fm_17_5) dX16_book_36 hh (fun h25 H locs _ hh hm hs => ?_)
      refine r_aload_n C.1 C.2.1 dX16_book_39 rfl (lv_at hl 0 rfl) ?_
      refine r_cV (hroom := ⟨(Nat.le_of_ble_eq_true rfl), (Nat.le_of_ble_eq_true rfl)⟩) C X hm hs mlX16_192 mvX16_192 hh (vv := fun r => none) (hp := fun r => r) (fun b r hg => c_X16_next l G h25 b  r hg) rfl rfl (Nat.le_of_ble_eq_true rfl) (Nat.le_of_ble_eq_true rfl) (Nat.le_of_ble_eq_true rfl) hl.1 dX16_book_40 (fun b27 r26 H locs hgr26 hh hm hs => ?_)
      refine W.eq (g2 := F0 m 43 ls []) rfl ?_
      refine r_aload_n C.1 C.2.1 dX16_book_43 rfl (lv_at hl 0 rfl) ?_
      refine r_uV C X hm hs mlX16_301 (in_tbl q_1541 rfl) mvX16_301 hh (vv := (fun _ => none)) (fun b r hg => c_X16_readBook l G r26 b  r hg) rfl rfl (Nat.le_of_ble_eq_true rfl) (Nat.le_of_ble_eq_true rfl) (Nat.le_of_ble_eq_true rfl) hl.1 ⟨(Nat.le_of_ble_eq_true rfl), (Nat.le_of_ble_eq_true rfl)⟩ dX16_book_44 (fun q38 b29 h30 ce H locs _ hh hm hs e1 e2 e3 => ?_) (fun b29 x31 h30 H locs _ hh hm hs => ?_)
      · try dsimp only at hh
        refine ux_catch (E := "CountOfficeModel$Stop") (name := "CountOfficeModel$Stop") C.2.2.2.1 [] _ [] htab (fun z hz => nomatch hz) (by decide) (by decide) (C.2.2.2.2.1 _ (in_tbl q_1290 rfl)) (C.2.2.2.2.1 _ castStop) e1 e2 e3 ?_
        refine W.eq (g2 := F0 m 50 ls [va_rf (some q38)]) rfl ?_
        refine r_astore_n (i := 2) (lv' := [(2, va_rf (some q38)), (0, va_rf (some a0)), (1, .int a1)]) C.1 C.2.1 dX16_book_50 rfl hl (by decide) rfl (fun ls hl => ?_)
        refine r_aload_n C.1 C.2.1 dX16_book_51 rfl (lv_at hl 1 rfl) ?_
        refine r_aload_n C.1 C.2.1 dX16_book_52 rfl (lv_at hl 0 rfl) ?_
        refine r_cV (hroom := ⟨(Nat.le_of_ble_eq_true rfl), (Nat.le_of_ble_eq_true rfl)⟩) C X hm hs mlX16_304 mvX16_304 hh (vv := fun r => some (.int r.1)) (hp := fun r => r.2) (fun b r hg => c_X16_wrong l G h30 b _ r hg) rfl rfl (Nat.le_of_ble_eq_true rfl) (Nat.le_of_ble_eq_true rfl) (Nat.le_of_ble_eq_true rfl) hl.1 dX16_book_53 (fun b40 r39 H locs hgr39 hh hm hs => ?_)
        refine W.eq (g2 := F0 m 56 ls [.int r39.1]) rfl ?_
        refine W.widen (k := 110) (n := 1149) (by omega) (by omega) ?_
        exact r_iretW hQ C hr hm hs hh dX16_book_56
      · try dsimp only at hh
        refine W.eq (g2 := F0 m 47 ls []) rfl ?_
        refine lv_goto (tgt := 57) C.1 C.2.1 dX16_book_47 (by decide) ?_
        refine r_aload_n C.1 C.2.1 dX16_book_57 rfl (lv_at hl 0 rfl) ?_
        refine r_aload_n C.1 C.2.1 dX16_book_58 rfl (lv_at hl 0 rfl) ?_
        refine r_getR C hm flX16_208 dX16_book_59 hh (fun x32 _ hh => ?_)
        refine r_putR C hm hs flX16_274 (Or.inl fm_17_4) dX16_book_62 hh (fun h33 H locs _ hh hm hs => ?_)
        refine r_aload_n C.1 C.2.1 dX16_book_65 rfl (lv_at hl 0 rfl) ?_
        refine lv_iconst (v := 0) C.1 C.2.1 dX16_book_66 (by decide) ?_
        refine r_putI C hm hs flX16_308 (Or.inl fm_17_18) dX16_book_67 hh (fun h34 H locs _ hh hm hs => ?_)
        refine r_aload_n C.1 C.2.1 dX16_book_70 rfl (lv_at hl 0 rfl) ?_
        refine lv_iconst (v := 0) C.1 C.2.1 dX16_book_71 (by decide) ?_
        refine r_putI C hm hs flX16_311 (Or.inl fm_17_7) dX16_book_72 hh (fun h35 H locs _ hh hm hs => ?_)
        refine r_aload_n C.1 C.2.1 dX16_book_75 rfl (lv_at hl 0 rfl) ?_
        refine lv_iconst (v := 0) C.1 C.2.1 dX16_book_76 (by decide) ?_
        refine r_putI C hm hs flX16_314 (Or.inl fm_17_19) dX16_book_77 hh (fun h36 H locs _ hh hm hs => ?_)
        refine r_aload_n C.1 C.2.1 dX16_book_80 rfl (lv_at hl 0 rfl) ?_
        refine lv_iconst (v := (-1)) C.1 C.2.1 dX16_book_81 (by decide) ?_
        refine r_putI C hm hs flX16_73 (Or.inl fm_17_34) dX16_book_82 hh (fun h37 H locs _ hh hm hs => ?_)
        refine lv_iconst (v := 0) C.1 C.2.1 dX16_book_85 (by decide) ?_
        refine lv_istore_n (i := 2) (lv' := [(2, .int 0), (0, va_rf (some a0)), (1, .int a1)]) C.1 C.2.1 dX16_book_86 rfl hl (by decide) rfl (fun ls hl => ?_)
        exact B87 FUEL _ _ _ _ _ _  hm hs (lv_sub hl [1, 0] rfl) hh
    · rw [if_neg c41] at hh
      exact B17 _ _ _ _ _  hm hs (lv_sub hl [0] rfl) hh
def mX16_table_b30 (h : MHp) (a0 : Nat) : Option (Int32 × MHp) := (rcv 17 h (some a0)).bind fun b2 => (mX16_refused h b2 2).bind fun r1 => some (r1.1, r1.2)
def mX16_table (h : MHp) (a0 : Nat) (a1 : Int32) : Option (Int32 × MHp) := (pI 17 0 h (some a0) 0).bind fun h3 => (gR 17 4 h3 (some a0)).bind fun x4 => (if x4 = none then (rcv 17 h3 (some a0)).bind fun b32 => (mX16_refused h3 b32 1).bind fun r31 => some (r31.1, r31.2) else (if a1 < 0 then mX16_table_b30 h3 a0 else (gI 17 10 h3 (some a0)).bind fun x5 => (if a1 ≤ x5 then (rcv 17 h3 (some a0)).bind fun b7 => (mX16_begins h3 b7 a1).bind fun r6 => (rcv 17 r6 (some a0)).bind fun b9 => (mX16_next r6 b9).bind fun r8 => (rcv 17 r8 (some a0)).bind fun b11 => (mX16_readTable r8 b11).bind fun r10 => (match r10 with | (Sum.inl x13, h12) => (gI 17 7 h12 (some a0)).bind fun x14 => (if x14 = 8 then (rcv 17 h12 (some a0)).bind fun b24 => (mX16_refused h12 b24 3).bind fun r23 => some (r23.1, r23.2) else (gR 17 6 h12 (some a0)).bind fun x15 => (gI 17 7 h12 (some a0)).bind fun x16 => (pAR 26 15 h12 x15 x16 x13).bind fun h17 => (gI 17 7 h17 (some a0)).bind fun x18 => (pI 17 7 h17 (some a0) (x18 + 1)).bind fun h19 => (gI 17 7 h19 (some a0)).bind fun x20 => (rcv 17 h19 (some a0)).bind fun b22 => (mX16_done h19 b22 (x20 - 1)).bind fun r21 => some (r21.1, r21.2)) | (Sum.inr q26, h12) => (rcv 17 h12 (some a0)).bind fun b28 => (mX16_wrong h12 b28 (some q26)).bind fun r27 => some (r27.1, r27.2)) else mX16_table_b30 h3 a0)))
set_option maxRecDepth 100000 in
set_option maxHeartbeats 4000000 in
theorem c_X16_table (l : Launch) (G : Env0) (h : MHp) (a0 : Nat) (a1 : Int32) (res : Int32 × MHp) (hh : mX16_table h a0 a1 = some res) : MGW l yX16_table cX16_table 4 (some .int) [(41, 50, 53, 19)] 10 216 9 360 G h [.ref a0, .int a1] (some (.int res.1)) (res.2) := by
  refine MGW_of (own := RX16) (by decide) rfl (Nat.le_of_ble_eq_true rfl) ?_
  intro p e s m args below meth c Q ls hQ C X htab hm hs hl hr
  have hl : lv_has ls 4 [(0, va_rf (some a0)), (1, .int a1)] := hl
  have B30 : ∀ (h : MHp) (H : Heap) (locs : List Loc) (ls : Array Slot) (a0 : Nat) , mHp (gD G) (gC G) (gB G) h H → va_S (fun q => gB G ≤ q) s.heap H locs → lv_has ls 4 [(0, va_rf (some a0))] → mX16_table_b30 h a0 = some res → W p l e ({ frames := 10, cells := 9, slots := 360, locals := 216 }) s m args below meth c H locs 0 0 Q (F0 m 30 ls []) := by
    intro h H locs ls a0 hm hs hl hh
    unfold mX16_table_b30 at hh
    refine r_aload_n C.1 C.2.1 dX16_table_30 rfl (lv_at hl 0 rfl) ?_
    refine lv_iconst (v := 2) C.1 C.2.1 dX16_table_31 (by decide) ?_
    refine r_cV (hroom := ⟨(Nat.le_of_ble_eq_true rfl), (Nat.le_of_ble_eq_true rfl)⟩) C X hm hs mlX16_293 mvX16_293 hh (vv := fun r => some (.int r.1)) (hp := fun r => r.2) (fun b r hg => c_X16_refused l G h b _ r hg) rfl rfl (Nat.le_of_ble_eq_true rfl) (Nat.le_of_ble_eq_true rfl) (Nat.le_of_ble_eq_true rfl) hl.1 dX16_table_32 (fun b2 r1 H locs hgr1 hh hm hs => ?_)
    refine W.eq (g2 := F0 m 35 ls [.int r1.1]) rfl ?_
    refine W.widen (k := 9) (n := 360) (by omega) (by omega) ?_
    exact r_iretW hQ C hr hm hs hh dX16_table_35
  unfold mX16_table at hh
  refine r_aload_n C.1 C.2.1 dX16_table_0 rfl (lv_at hl 0 rfl) ?_
  refine lv_iconst (v := 0) C.1 C.2.1 dX16_table_1 (by decide) ?_
  refine r_putI C hm hs flX16_109 (Or.inl fm_17_0) dX16_table_2 hh (fun h3 H locs _ hh hm hs => ?_)
  refine r_aload_n C.1 C.2.1 dX16_table_5 rfl (lv_at hl 0 rfl) ?_
  refine r_getR C hm flX16_274 dX16_table_6 hh (fun x4 _ hh => ?_)
  refine r_ifnonnull (tgt := 18) C.1 C.2.1 dX16_table_9 (by decide) (fun c33 => ?_) (fun c33 => ?_)
  · rw [if_neg c33] at hh
    refine lv_iload_n C.1 C.2.1 dX16_table_18 rfl (lv_at hl 1 rfl) ?_
    refine lv_if_lt (tgt := 30) C.1 C.2.1 dX16_table_19 (by decide) (fun c30 => ?_) (fun c30 => ?_)
    · rw [if_pos c30] at hh
      exact B30 _ _ _ _ _  hm hs (lv_sub hl [0] rfl) hh
    · rw [if_neg c30] at hh
      refine lv_iload_n C.1 C.2.1 dX16_table_22 rfl (lv_at hl 1 rfl) ?_
      refine r_aload_n C.1 C.2.1 dX16_table_23 rfl (lv_at hl 0 rfl) ?_
      refine r_getI C hm flX16_287 dX16_table_24 hh (fun x5 _ hh => ?_)
      refine lv_icmp_le (tgt := 36) C.1 C.2.1 dX16_table_27 (by decide) (fun c29 => ?_) (fun c29 => ?_)
      · rw [if_pos c29] at hh
        refine r_aload_n C.1 C.2.1 dX16_table_36 rfl (lv_at hl 0 rfl) ?_
        refine lv_iload_n C.1 C.2.1 dX16_table_37 rfl (lv_at hl 1 rfl) ?_
        refine r_cV (hroom := ⟨(Nat.le_of_ble_eq_true rfl), (Nat.le_of_ble_eq_true rfl)⟩) C X hm hs mlX16_296 mvX16_296 hh (vv := fun r => none) (hp := fun r => r) (fun b r hg => c_X16_begins l G h3 b _ r hg) rfl rfl (Nat.le_of_ble_eq_true rfl) (Nat.le_of_ble_eq_true rfl) (Nat.le_of_ble_eq_true rfl) hl.1 dX16_table_38 (fun b7 r6 H locs hgr6 hh hm hs => ?_)
        refine W.eq (g2 := F0 m 41 ls []) rfl ?_
        refine r_aload_n C.1 C.2.1 dX16_table_41 rfl (lv_at hl 0 rfl) ?_
        refine r_cV (hroom := ⟨(Nat.le_of_ble_eq_true rfl), (Nat.le_of_ble_eq_true rfl)⟩) C X hm hs mlX16_192 mvX16_192 hh (vv := fun r => none) (hp := fun r => r) (fun b r hg => c_X16_next l G r6 b  r hg) rfl rfl (Nat.le_of_ble_eq_true rfl) (Nat.le_of_ble_eq_true rfl) (Nat.le_of_ble_eq_true rfl) hl.1 dX16_table_42 (fun b9 r8 H locs hgr8 hh hm hs => ?_)
        refine W.eq (g2 := F0 m 45 ls []) rfl ?_
        refine r_aload_n C.1 C.2.1 dX16_table_45 rfl (lv_at hl 0 rfl) ?_
        refine r_uV C X hm hs mlX16_326 (in_tbl q_1688 rfl) mvX16_326 hh (vv := (fun v => some (va_rf v))) (fun b r hg => c_X16_readTable l G r8 b  r hg) rfl rfl (Nat.le_of_ble_eq_true rfl) (Nat.le_of_ble_eq_true rfl) (Nat.le_of_ble_eq_true rfl) hl.1 ⟨(Nat.le_of_ble_eq_true rfl), (Nat.le_of_ble_eq_true rfl)⟩ dX16_table_46 (fun q26 b11 h12 ce H locs _ hh hm hs e1 e2 e3 => ?_) (fun b11 x13 h12 H locs _ hh hm hs => ?_)
        · try dsimp only at hh
          refine ux_catch (E := "CountOfficeModel$Stop") (name := "CountOfficeModel$Stop") C.2.2.2.1 [] _ [] htab (fun z hz => nomatch hz) (by decide) (by decide) (C.2.2.2.2.1 _ (in_tbl q_1290 rfl)) (C.2.2.2.2.1 _ castStop) e1 e2 e3 ?_
          refine W.eq (g2 := F0 m 53 ls [va_rf (some q26)]) rfl ?_
          refine r_astore_n (i := 3) (lv' := [(3, va_rf (some q26)), (0, va_rf (some a0)), (1, .int a1)]) C.1 C.2.1 dX16_table_53 rfl hl (by decide) rfl (fun ls hl => ?_)
          refine r_aload_n C.1 C.2.1 dX16_table_54 rfl (lv_at hl 1 rfl) ?_
          refine r_aload_n C.1 C.2.1 dX16_table_55 rfl (lv_at hl 0 rfl) ?_
          refine r_cV (hroom := ⟨(Nat.le_of_ble_eq_true rfl), (Nat.le_of_ble_eq_true rfl)⟩) C X hm hs mlX16_304 mvX16_304 hh (vv := fun r => some (.int r.1)) (hp := fun r => r.2) (fun b r hg => c_X16_wrong l G h12 b _ r hg) rfl rfl (Nat.le_of_ble_eq_true rfl) (Nat.le_of_ble_eq_true rfl) (Nat.le_of_ble_eq_true rfl) hl.1 dX16_table_56 (fun b28 r27 H locs hgr27 hh hm hs => ?_)
          refine W.eq (g2 := F0 m 59 ls [.int r27.1]) rfl ?_
          refine W.widen (k := 9) (n := 360) (by omega) (by omega) ?_
          exact r_iretW hQ C hr hm hs hh dX16_table_59
        · try dsimp only at hh
          refine W.eq (g2 := F0 m 49 ls [va_rf x13]) rfl ?_
          refine r_astore_n (i := 2) (lv' := [(2, va_rf x13), (0, va_rf (some a0)), (1, .int a1)]) C.1 C.2.1 dX16_table_49 rfl hl (by decide) rfl (fun ls hl => ?_)
          refine lv_goto (tgt := 60) C.1 C.2.1 dX16_table_50 (by decide) ?_
          refine r_aload_n C.1 C.2.1 dX16_table_60 rfl (lv_at hl 1 rfl) ?_
          refine r_getI C hm flX16_311 dX16_table_61 hh (fun x14 _ hh => ?_)
          refine lv_bipush (v := 8) C.1 C.2.1 dX16_table_64 (by decide) ?_
          refine lv_icmp_ne (tgt := 75) C.1 C.2.1 dX16_table_66 (by decide) (fun c25 => ?_) (fun c25 => ?_)
          · rw [if_neg c25] at hh
            refine r_aload_n C.1 C.2.1 dX16_table_75 rfl (lv_at hl 1 rfl) ?_
            refine r_getR C hm flX16_15 dX16_table_76 hh (fun x15 _ hh => ?_)
            refine r_aload_n C.1 C.2.1 dX16_table_79 rfl (lv_at hl 1 rfl) ?_
            refine r_getI C hm flX16_311 dX16_table_80 hh (fun x16 _ hh => ?_)
            refine r_aload_n C.1 C.2.1 dX16_table_83 rfl (lv_at hl 0 rfl) ?_
            refine r_ast_q C hm hs dX16_table_84 (kd := 26) (kv := 15) (t0 := 6) (by decide) (by decide) rfl rfl hh (fun h17 H locs _ hh hm hs => ?_)
            refine r_aload_n C.1 C.2.1 dX16_table_85 rfl (lv_at hl 1 rfl) ?_
            refine lv_dup C.1 C.2.1 dX16_table_86 (va_cat _) ?_
            refine r_getI C hm flX16_311 dX16_table_87 hh (fun x18 _ hh => ?_)
            refine lv_iconst (v := 1) C.1 C.2.1 dX16_table_90 (by decide) ?_
            refine lv_iadd C.1 C.2.1 dX16_table_91 ?_
            refine r_putI C hm hs flX16_311 (Or.inl fm_17_7) dX16_table_92 hh (fun h19 H locs _ hh hm hs => ?_)
            refine r_aload_n C.1 C.2.1 dX16_table_95 rfl (lv_at hl 1 rfl) ?_
            refine r_aload_n C.1 C.2.1 dX16_table_96 rfl (lv_at hl 1 rfl) ?_
            refine r_getI C hm flX16_311 dX16_table_97 hh (fun x20 _ hh => ?_)
            refine lv_iconst (v := 1) C.1 C.2.1 dX16_table_100 (by decide) ?_
            refine lv_isub C.1 C.2.1 dX16_table_101 ?_
            refine r_cV (hroom := ⟨(Nat.le_of_ble_eq_true rfl), (Nat.le_of_ble_eq_true rfl)⟩) C X hm hs mlX16_323 mvX16_323 hh (vv := fun r => some (.int r.1)) (hp := fun r => r.2) (fun b r hg => c_X16_done l G h19 b _ r hg) rfl rfl (Nat.le_of_ble_eq_true rfl) (Nat.le_of_ble_eq_true rfl) (Nat.le_of_ble_eq_true rfl) hl.1 dX16_table_102 (fun b22 r21 H locs hgr21 hh hm hs => ?_)
            refine W.eq (g2 := F0 m 105 ls [.int r21.1]) rfl ?_
            refine W.widen (k := 9) (n := 360) (by omega) (by omega) ?_
            exact r_iretW hQ C hr hm hs hh dX16_table_105
          · rw [if_pos c25] at hh
            refine r_aload_n C.1 C.2.1 dX16_table_69 rfl (lv_at hl 1 rfl) ?_
            refine lv_iconst (v := 3) C.1 C.2.1 dX16_table_70 (by decide) ?_
            refine r_cV (hroom := ⟨(Nat.le_of_ble_eq_true rfl), (Nat.le_of_ble_eq_true rfl)⟩) C X hm hs mlX16_293 mvX16_293 hh (vv := fun r => some (.int r.1)) (hp := fun r => r.2) (fun b r hg => c_X16_refused l G h12 b _ r hg) rfl rfl (Nat.le_of_ble_eq_true rfl) (Nat.le_of_ble_eq_true rfl) (Nat.le_of_ble_eq_true rfl) hl.1 dX16_table_71 (fun b24 r23 H locs hgr23 hh hm hs => ?_)
            refine W.eq (g2 := F0 m 74 ls [.int r23.1]) rfl ?_
            refine W.widen (k := 9) (n := 360) (by omega) (by omega) ?_
            exact r_iretW hQ C hr hm hs hh dX16_table_74
      · rw [if_neg c29] at hh
        exact B30 _ _ _ _ _  hm hs (lv_sub hl [0] rfl) hh
  · rw [if_pos c33] at hh
    refine r_aload_n C.1 C.2.1 dX16_table_12 rfl (lv_at hl 0 rfl) ?_
    refine lv_iconst (v := 1) C.1 C.2.1 dX16_table_13 (by decide) ?_
    refine r_cV (hroom := ⟨(Nat.le_of_ble_eq_true rfl), (Nat.le_of_ble_eq_true rfl)⟩) C X hm hs mlX16_293 mvX16_293 hh (vv := fun r => some (.int r.1)) (hp := fun r => r.2) (fun b r hg => c_X16_refused l G h3 b _ r hg) rfl rfl (Nat.le_of_ble_eq_true rfl) (Nat.le_of_ble_eq_true rfl) (Nat.le_of_ble_eq_true rfl) hl.1 dX16_table_14 (fun b32 r31 H locs hgr31 hh hm hs => ?_)
    refine W.eq (g2 := F0 m 17 ls [.int r31.1]) rfl ?_
    refine W.widen (k := 9) (n := 360) (by omega) (by omega) ?_
    exact r_iretW hQ C hr hm hs hh dX16_table_17
def mX16_fault (h : MHp) (a0 : Nat) : Option (Int32 × MHp) := (pI 17 0 h (some a0) 0).bind fun h1 => (gI 17 3 h1 (some a0)).bind fun x2 => some (x2, h1)
set_option maxRecDepth 100000 in
set_option maxHeartbeats 4000000 in
theorem c_X16_fault (l : Launch) (G : Env0) (h : MHp) (a0 : Nat) (res : Int32 × MHp) (hh : mX16_fault h a0 = some res) : MG l yX16_fault cX16_fault 1 (some .int) 0 0 0 0 G h [.ref a0] (some (.int res.1)) (res.2) := by
  refine MG_of (own := RX16) (plainFor_of_name (by decide)) rfl (Nat.le_of_ble_eq_true rfl) ?_
  intro p e s m args below meth c Q ls hQ C X hin hm hs hl hr
  have hl : lv_has ls 1 [(0, va_rf (some a0))] := hl
  unfold mX16_fault at hh
  refine r_aload_n C.1 C.2.1 dX16_fault_0 rfl (lv_at hl 0 rfl) ?_
  refine lv_iconst (v := 0) C.1 C.2.1 dX16_fault_1 (by decide) ?_
  refine r_putI C hm hs flX16_109 (Or.inl fm_17_0) dX16_fault_2 hh (fun h1 H locs _ hh hm hs => ?_)
  refine r_aload_n C.1 C.2.1 dX16_fault_5 rfl (lv_at hl 0 rfl) ?_
  refine r_getI C hm flX16_290 dX16_fault_6 hh (fun x2 _ hh => ?_)
  exact r_iretW hQ C hr hm hs hh dX16_fault_9
def mX16_where (h : MHp) (a0 : Nat) : Option (Int32 × MHp) := (pI 17 0 h (some a0) 0).bind fun h1 => (gI 17 2 h1 (some a0)).bind fun x2 => some (x2, h1)
set_option maxRecDepth 100000 in
set_option maxHeartbeats 4000000 in
theorem c_X16_where (l : Launch) (G : Env0) (h : MHp) (a0 : Nat) (res : Int32 × MHp) (hh : mX16_where h a0 = some res) : MG l yX16_where cX16_where 1 (some .int) 0 0 0 0 G h [.ref a0] (some (.int res.1)) (res.2) := by
  refine MG_of (own := RX16) (plainFor_of_name (by decide)) rfl (Nat.le_of_ble_eq_true rfl) ?_
  intro p e s m args below meth c Q ls hQ C X hin hm hs hl hr
  have hl : lv_has ls 1 [(0, va_rf (some a0))] := hl
  unfold mX16_where at hh
  refine r_aload_n C.1 C.2.1 dX16_where_0 rfl (lv_at hl 0 rfl) ?_
  refine lv_iconst (v := 0) C.1 C.2.1 dX16_where_1 (by decide) ?_
  refine r_putI C hm hs flX16_109 (Or.inl fm_17_0) dX16_where_2 hh (fun h1 H locs _ hh hm hs => ?_)
  refine r_aload_n C.1 C.2.1 dX16_where_5 rfl (lv_at hl 0 rfl) ?_
  refine r_getI C hm flX16_9 dX16_where_6 hh (fun x2 _ hh => ?_)
  exact r_iretW hQ C hr hm hs hh dX16_where_9
def mX16_isField (h : MHp) (a0 : Nat) (a1 : Int32) : Option (Int32) := (gR 17 4 h (some a0)).bind fun x1 => (if x1 = none then some 0 else (if a1 < 0 then some 0 else (gR 17 4 h (some a0)).bind fun x2 => (gI 13 0 h x2).bind fun x3 => (if x3 ≤ a1 then some 0 else some 1)))
set_option maxRecDepth 100000 in
set_option maxHeartbeats 4000000 in
theorem c_X16_isField (l : Launch) (G : Env0) (h : MHp) (a0 : Nat) (a1 : Int32) (res : Int32) (hh : mX16_isField h a0 a1 = some res) : MG l yX16_isField cX16_isField 2 (some .boolean) 0 0 0 0 G h [.ref a0, .int a1] (some (.int res)) (h) := by
  refine MG_of (own := RX16) (plainFor_of_name (by decide)) rfl (Nat.le_of_ble_eq_true rfl) ?_
  intro p e s m args below meth c Q ls hQ C X hin hm hs hl hr
  have hl : lv_has ls 2 [(0, va_rf (some a0)), (1, .int a1)] := hl
  unfold mX16_isField at hh
  refine r_aload_n C.1 C.2.1 dX16_isField_0 rfl (lv_at hl 0 rfl) ?_
  refine r_getR C hm flX16_274 dX16_isField_1 hh (fun x1 _ hh => ?_)
  refine r_ifnull (tgt := 26) C.1 C.2.1 dX16_isField_4 (by decide) (fun c6 => ?_) (fun c6 => ?_)
  · rw [if_pos c6] at hh
    refine lv_iconst (v := 0) C.1 C.2.1 dX16_isField_26 (by decide) ?_
    exact r_bretP hQ C hr hm hs (by decide) hh dX16_isField_27
  · rw [if_neg c6] at hh
    refine lv_iload_n C.1 C.2.1 dX16_isField_7 rfl (lv_at hl 1 rfl) ?_
    refine lv_if_lt (tgt := 26) C.1 C.2.1 dX16_isField_8 (by decide) (fun c5 => ?_) (fun c5 => ?_)
    · rw [if_pos c5] at hh
      refine lv_iconst (v := 0) C.1 C.2.1 dX16_isField_26 (by decide) ?_
      exact r_bretP hQ C hr hm hs (by decide) hh dX16_isField_27
    · rw [if_neg c5] at hh
      refine lv_iload_n C.1 C.2.1 dX16_isField_11 rfl (lv_at hl 1 rfl) ?_
      refine r_aload_n C.1 C.2.1 dX16_isField_12 rfl (lv_at hl 0 rfl) ?_
      refine r_getR C hm flX16_274 dX16_isField_13 hh (fun x2 _ hh => ?_)
      refine r_getI C hm flX16_218 dX16_isField_16 hh (fun x3 _ hh => ?_)
      refine lv_icmp_ge (tgt := 26) C.1 C.2.1 dX16_isField_19 (by decide) (fun c4 => ?_) (fun c4 => ?_)
      · rw [if_pos c4] at hh
        refine lv_iconst (v := 0) C.1 C.2.1 dX16_isField_26 (by decide) ?_
        exact r_bretP hQ C hr hm hs (by decide) hh dX16_isField_27
      · rw [if_neg c4] at hh
        refine lv_iconst (v := 1) C.1 C.2.1 dX16_isField_22 (by decide) ?_
        refine lv_goto (tgt := 27) C.1 C.2.1 dX16_isField_23 (by decide) ?_
        exact r_bretP hQ C hr hm hs (by decide) hh dX16_isField_27
def mX16_field (h : MHp) (a0 : Nat) (a1 : Int32) (a2 : Int32) : Option (Int32 × MHp) := (pI 17 0 h (some a0) 0).bind fun h1 => (rcv 17 h1 (some a0)).bind fun b3 => (mX16_isField h1 b3 a1).bind fun r2 => (if r2 = 0 then some ((-1), h1) else (if a2 = 0 then (gR 17 4 h1 (some a0)).bind fun x8 => (gR 13 3 h1 x8).bind fun x9 => (gAI 20 h1 x9 a1).bind fun x10 => some (x10, h1) else (if a2 = 1 then (gR 17 4 h1 (some a0)).bind fun x4 => (gR 13 4 h1 x4).bind fun x5 => (gAI 20 h1 x5 a1).bind fun x6 => some (x6, h1) else some ((-1), h1))))
set_option maxRecDepth 100000 in
set_option maxHeartbeats 4000000 in
theorem c_X16_field (l : Launch) (G : Env0) (h : MHp) (a0 : Nat) (a1 : Int32) (a2 : Int32) (res : Int32 × MHp) (hh : mX16_field h a0 a1 a2 = some res) : MG l yX16_field cX16_field 3 (some .int) 1 21 0 0 G h [.ref a0, .int a1, .int a2] (some (.int res.1)) (res.2) := by
  refine MG_of (own := RX16) (plainFor_of_name (by decide)) rfl (Nat.le_of_ble_eq_true rfl) ?_
  intro p e s m args below meth c Q ls hQ C X hin hm hs hl hr
  have hl : lv_has ls 3 [(0, va_rf (some a0)), (1, .int a1), (2, .int a2)] := hl
  unfold mX16_field at hh
  refine r_aload_n C.1 C.2.1 dX16_field_0 rfl (lv_at hl 0 rfl) ?_
  refine lv_iconst (v := 0) C.1 C.2.1 dX16_field_1 (by decide) ?_
  refine r_putI C hm hs flX16_109 (Or.inl fm_17_0) dX16_field_2 hh (fun h1 H locs _ hh hm hs => ?_)
  refine r_aload_n C.1 C.2.1 dX16_field_5 rfl (lv_at hl 0 rfl) ?_
  refine lv_iload_n C.1 C.2.1 dX16_field_6 rfl (lv_at hl 1 rfl) ?_
  refine r_cV C X hm hs mlX16_330 mvX16_330 hh (vv := fun r => some (.int r)) (hp := fun r => h1) (fun b r hg => c_X16_isField l G h1 b _ r hg) rfl rfl (Nat.le_of_ble_eq_true rfl) (Nat.le_of_ble_eq_true rfl) (Nat.le_of_ble_eq_true rfl) hl.1 dX16_field_7 (fun b3 r2 H locs hgr2 hh hm hs => ?_)
  refine W.eq (g2 := F0 m 10 ls [.int r2]) rfl ?_
  refine lv_if_ne (tgt := 17) C.1 C.2.1 dX16_field_10 (by decide) (fun c12 => ?_) (fun c12 => ?_)
  · rw [if_neg c12] at hh
    refine lv_iload_n C.1 C.2.1 dX16_field_17 rfl (lv_at hl 2 rfl) ?_
    refine lv_if_ne (tgt := 33) C.1 C.2.1 dX16_field_18 (by decide) (fun c11 => ?_) (fun c11 => ?_)
    · rw [if_neg c11] at hh
      refine lv_iload_n C.1 C.2.1 dX16_field_33 rfl (lv_at hl 2 rfl) ?_
      refine lv_iconst (v := 1) C.1 C.2.1 dX16_field_34 (by decide) ?_
      refine lv_icmp_ne (tgt := 50) C.1 C.2.1 dX16_field_35 (by decide) (fun c7 => ?_) (fun c7 => ?_)
      · rw [if_neg c7] at hh
        refine lv_iconst (v := (-1)) C.1 C.2.1 dX16_field_50 (by decide) ?_
        exact r_iretW hQ C hr hm hs hh dX16_field_51
      · rw [if_pos c7] at hh
        refine r_aload_n C.1 C.2.1 dX16_field_38 rfl (lv_at hl 0 rfl) ?_
        refine r_getR C hm flX16_274 dX16_field_39 hh (fun x4 _ hh => ?_)
        refine r_getR C hm flX16_239 dX16_field_42 hh (fun x5 _ hh => ?_)
        refine lv_iload_n C.1 C.2.1 dX16_field_45 rfl (lv_at hl 1 rfl) ?_
        refine r_ald C hm dX16_field_46 hh (fun x6 _ hh => ?_)
        refine lv_goto (tgt := 51) C.1 C.2.1 dX16_field_47 (by decide) ?_
        exact r_iretW hQ C hr hm hs hh dX16_field_51
    · rw [if_pos c11] at hh
      refine r_aload_n C.1 C.2.1 dX16_field_21 rfl (lv_at hl 0 rfl) ?_
      refine r_getR C hm flX16_274 dX16_field_22 hh (fun x8 _ hh => ?_)
      refine r_getR C hm flX16_235 dX16_field_25 hh (fun x9 _ hh => ?_)
      refine lv_iload_n C.1 C.2.1 dX16_field_28 rfl (lv_at hl 1 rfl) ?_
      refine r_ald C hm dX16_field_29 hh (fun x10 _ hh => ?_)
      refine lv_goto (tgt := 51) C.1 C.2.1 dX16_field_30 (by decide) ?_
      exact r_iretW hQ C hr hm hs hh dX16_field_51
  · rw [if_pos c12] at hh
    refine lv_iconst (v := (-1)) C.1 C.2.1 dX16_field_13 (by decide) ?_
    refine lv_goto (tgt := 51) C.1 C.2.1 dX16_field_14 (by decide) ?_
    exact r_iretW hQ C hr hm hs hh dX16_field_51
def mX16_isRow (h : MHp) (a0 : Nat) (a1 : Int32) : Option (Int32) := (if a1 < 0 then some 0 else (gI 17 18 h (some a0)).bind fun x1 => (if x1 ≤ a1 then some 0 else some 1))
set_option maxRecDepth 100000 in
set_option maxHeartbeats 4000000 in
theorem c_X16_isRow (l : Launch) (G : Env0) (h : MHp) (a0 : Nat) (a1 : Int32) (res : Int32) (hh : mX16_isRow h a0 a1 = some res) : MG l yX16_isRow cX16_isRow 2 (some .boolean) 0 0 0 0 G h [.ref a0, .int a1] (some (.int res)) (h) := by
  refine MG_of (own := RX16) (plainFor_of_name (by decide)) rfl (Nat.le_of_ble_eq_true rfl) ?_
  intro p e s m args below meth c Q ls hQ C X hin hm hs hl hr
  have hl : lv_has ls 2 [(0, va_rf (some a0)), (1, .int a1)] := hl
  unfold mX16_isRow at hh
  refine lv_iload_n C.1 C.2.1 dX16_isRow_0 rfl (lv_at hl 1 rfl) ?_
  refine lv_if_lt (tgt := 16) C.1 C.2.1 dX16_isRow_1 (by decide) (fun c3 => ?_) (fun c3 => ?_)
  · rw [if_pos c3] at hh
    refine lv_iconst (v := 0) C.1 C.2.1 dX16_isRow_16 (by decide) ?_
    exact r_bretP hQ C hr hm hs (by decide) hh dX16_isRow_17
  · rw [if_neg c3] at hh
    refine lv_iload_n C.1 C.2.1 dX16_isRow_4 rfl (lv_at hl 1 rfl) ?_
    refine r_aload_n C.1 C.2.1 dX16_isRow_5 rfl (lv_at hl 0 rfl) ?_
    refine r_getI C hm flX16_308 dX16_isRow_6 hh (fun x1 _ hh => ?_)
    refine lv_icmp_ge (tgt := 16) C.1 C.2.1 dX16_isRow_9 (by decide) (fun c2 => ?_) (fun c2 => ?_)
    · rw [if_pos c2] at hh
      refine lv_iconst (v := 0) C.1 C.2.1 dX16_isRow_16 (by decide) ?_
      exact r_bretP hQ C hr hm hs (by decide) hh dX16_isRow_17
    · rw [if_neg c2] at hh
      refine lv_iconst (v := 1) C.1 C.2.1 dX16_isRow_12 (by decide) ?_
      refine lv_goto (tgt := 17) C.1 C.2.1 dX16_isRow_13 (by decide) ?_
      exact r_bretP hQ C hr hm hs (by decide) hh dX16_isRow_17
def mX16_isValue (h : MHp) (a0 : Nat) (a1 : Int32) (a2 : Int32) : Option (Int32) := (gR 17 4 h (some a0)).bind fun x1 => (gI 13 0 h x1).bind fun x2 => (if x2 ≤ a1 then some 1 else (gR 17 4 h (some a0)).bind fun x3 => (gR 13 3 h x3).bind fun x4 => (gAI 20 h x4 a1).bind fun x5 => (mX16_in h a2 (-1) x5).bind fun r6 => (if r6 = 0 then some 0 else some 1))
set_option maxRecDepth 100000 in
set_option maxHeartbeats 4000000 in
theorem c_X16_isValue (l : Launch) (G : Env0) (h : MHp) (a0 : Nat) (a1 : Int32) (a2 : Int32) (res : Int32) (hh : mX16_isValue h a0 a1 a2 = some res) : MG l yX16_isValue cX16_isValue 3 (some .boolean) 1 22 0 0 G h [.ref a0, .int a1, .int a2] (some (.int res)) (h) := by
  refine MG_of (own := RX16) (plainFor_of_name (by decide)) rfl (Nat.le_of_ble_eq_true rfl) ?_
  intro p e s m args below meth c Q ls hQ C X hin hm hs hl hr
  have hl : lv_has ls 3 [(0, va_rf (some a0)), (1, .int a1), (2, .int a2)] := hl
  unfold mX16_isValue at hh
  refine lv_iload_n C.1 C.2.1 dX16_isValue_0 rfl (lv_at hl 1 rfl) ?_
  refine r_aload_n C.1 C.2.1 dX16_isValue_1 rfl (lv_at hl 0 rfl) ?_
  refine r_getR C hm flX16_274 dX16_isValue_2 hh (fun x1 _ hh => ?_)
  refine r_getI C hm flX16_218 dX16_isValue_5 hh (fun x2 _ hh => ?_)
  refine lv_icmp_ge (tgt := 28) C.1 C.2.1 dX16_isValue_8 (by decide) (fun c8 => ?_) (fun c8 => ?_)
  · rw [if_pos c8] at hh
    refine lv_iconst (v := 1) C.1 C.2.1 dX16_isValue_28 (by decide) ?_
    refine lv_goto (tgt := 33) C.1 C.2.1 dX16_isValue_29 (by decide) ?_
    exact r_bretP hQ C hr hm hs (by decide) hh dX16_isValue_33
  · rw [if_neg c8] at hh
    refine lv_iload_n C.1 C.2.1 dX16_isValue_11 rfl (lv_at hl 2 rfl) ?_
    refine lv_iconst (v := (-1)) C.1 C.2.1 dX16_isValue_12 (by decide) ?_
    refine r_aload_n C.1 C.2.1 dX16_isValue_13 rfl (lv_at hl 0 rfl) ?_
    refine r_getR C hm flX16_274 dX16_isValue_14 hh (fun x3 _ hh => ?_)
    refine r_getR C hm flX16_235 dX16_isValue_17 hh (fun x4 _ hh => ?_)
    refine lv_iload_n C.1 C.2.1 dX16_isValue_20 rfl (lv_at hl 1 rfl) ?_
    refine r_ald C hm dX16_isValue_21 hh (fun x5 _ hh => ?_)
    refine r_cS C X hm hs mlX16_231 msX16_231 hh (vv := fun r => some (.int r)) (hp := fun r => h) (fun r hg => c_X16_in l G h _ _ _ r hg) rfl rfl (Nat.le_of_ble_eq_true rfl) (Nat.le_of_ble_eq_true rfl) (Nat.le_of_ble_eq_true rfl) hl.1 dX16_isValue_22 (fun r6 H locs hgr6 hh hm hs => ?_)
    refine W.eq (g2 := F0 m 25 ls [.int r6]) rfl ?_
    refine lv_if_eq (tgt := 32) C.1 C.2.1 dX16_isValue_25 (by decide) (fun c7 => ?_) (fun c7 => ?_)
    · rw [if_pos c7] at hh
      refine lv_iconst (v := 0) C.1 C.2.1 dX16_isValue_32 (by decide) ?_
      exact r_bretP hQ C hr hm hs (by decide) hh dX16_isValue_33
    · rw [if_neg c7] at hh
      refine lv_iconst (v := 1) C.1 C.2.1 dX16_isValue_28 (by decide) ?_
      refine lv_goto (tgt := 33) C.1 C.2.1 dX16_isValue_29 (by decide) ?_
      exact r_bretP hQ C hr hm hs (by decide) hh dX16_isValue_33
def mX16_row_b75 (h : MHp) (a0 : Nat) : Option (Int32 × MHp) := (rcv 17 h (some a0)).bind fun b2 => (mX16_refused h b2 2).bind fun r1 => some (r1.1, r1.2)
def mX16_row (h : MHp) (a0 : Nat) (a1 : Int32) (a2 : Int32) (a3 : Int32) (a4 : Int32) (a5 : Int32) (a6 : Int32) : Option (Int32 × MHp) := (pI 17 0 h (some a0) 0).bind fun h3 => (gR 17 4 h3 (some a0)).bind fun x4 => (if x4 = none then (rcv 17 h3 (some a0)).bind fun b65 => (mX16_refused h3 b65 1).bind fun r64 => some (r64.1, r64.2) else (rcv 17 h3 (some a0)).bind fun b6 => (mX16_isValue h3 b6 0 a1).bind fun r5 => (if r5 = 0 then mX16_row_b75 h3 a0 else (rcv 17 h3 (some a0)).bind fun b8 => (mX16_isValue h3 b8 1 a2).bind fun r7 => (if r7 = 0 then mX16_row_b75 h3 a0 else (rcv 17 h3 (some a0)).bind fun b10 => (mX16_isValue h3 b10 2 a3).bind fun r9 => (if r9 = 0 then mX16_row_b75 h3 a0 else (rcv 17 h3 (some a0)).bind fun b12 => (mX16_isValue h3 b12 3 a4).bind fun r11 => (if r11 = 0 then mX16_row_b75 h3 a0 else (rcv 17 h3 (some a0)).bind fun b14 => (mX16_isValue h3 b14 4 a5).bind fun r13 => (if r13 = 0 then mX16_row_b75 h3 a0 else (rcv 17 h3 (some a0)).bind fun b16 => (mX16_isValue h3 b16 5 a6).bind fun r15 => (if r15 = 0 then mX16_row_b75 h3 a0 else (gI 17 18 h3 (some a0)).bind fun x17 => (if x17 = 60 then (rcv 17 h3 (some a0)).bind fun b56 => (mX16_refused h3 b56 3).bind fun r55 => some (r55.1, r55.2) else (gI 17 18 h3 (some a0)).bind fun x18 => (gR 17 20 h3 (some a0)).bind fun x19 => (pAI 20 h3 x19 (6 * x18) a1).bind fun h20 => (gR 17 20 h20 (some a0)).bind fun x21 => (pAI 20 h20 x21 ((6 * x18) + 1) a2).bind fun h22 => (gR 17 20 h22 (some a0)).bind fun x23 => (pAI 20 h22 x23 ((6 * x18) + 2) a3).bind fun h24 => (gR 17 20 h24 (some a0)).bind fun x25 => (pAI 20 h24 x25 ((6 * x18) + 3) a4).bind fun h26 => (gR 17 20 h26 (some a0)).bind fun x27 => (pAI 20 h26 x27 ((6 * x18) + 4) a5).bind fun h28 => (gR 17 20 h28 (some a0)).bind fun x29 => (pAI 20 h28 x29 ((6 * x18) + 5) a6).bind fun h30 => (gR 17 23 h30 (some a0)).bind fun x31 => (gI 17 18 h30 (some a0)).bind fun x32 => (gI 17 19 h30 (some a0)).bind fun x33 => (pAI 20 h30 x31 x32 x33).bind fun h34 => (gR 17 24 h34 (some a0)).bind fun x35 => (gI 17 18 h34 (some a0)).bind fun x36 => (pAI 20 h34 x35 x36 (-1)).bind fun h37 => (gR 17 25 h37 (some a0)).bind fun x38 => (gI 17 18 h37 (some a0)).bind fun x39 => (pAI 20 h37 x38 x39 (-1)).bind fun h40 => (gR 17 26 h40 (some a0)).bind fun x41 => (gI 17 18 h40 (some a0)).bind fun x42 => (pAI 20 h40 x41 x42 0).bind fun h43 => (gR 17 27 h43 (some a0)).bind fun x44 => (gI 17 18 h43 (some a0)).bind fun x45 => (pAI 20 h43 x44 x45 (-1)).bind fun h46 => (gR 17 28 h46 (some a0)).bind fun x47 => (gI 17 18 h46 (some a0)).bind fun x48 => (pAI 20 h46 x47 x48 1).bind fun h49 => (gI 17 18 h49 (some a0)).bind fun x50 => (pI 17 18 h49 (some a0) (x50 + 1)).bind fun h51 => (gI 17 18 h51 (some a0)).bind fun x52 => (rcv 17 h51 (some a0)).bind fun b54 => (mX16_done h51 b54 (x52 - 1)).bind fun r53 => some (r53.1, r53.2)))))))))
set_option maxRecDepth 100000 in
set_option maxHeartbeats 4000000 in
theorem c_X16_row (l : Launch) (G : Env0) (h : MHp) (a0 : Nat) (a1 : Int32) (a2 : Int32) (a3 : Int32) (a4 : Int32) (a5 : Int32) (a6 : Int32) (res : Int32 × MHp) (hh : mX16_row h a0 a1 a2 a3 a4 a5 a6 = some res) : MG l yX16_row cX16_row 8 (some .int) 2 44 0 0 G h [.ref a0, .int a1, .int a2, .int a3, .int a4, .int a5, .int a6] (some (.int res.1)) (res.2) := by
  refine MG_of (own := RX16) (plainFor_of_name (by decide)) rfl (Nat.le_of_ble_eq_true rfl) ?_
  intro p e s m args below meth c Q ls hQ C X hin hm hs hl hr
  have hl : lv_has ls 8 [(0, va_rf (some a0)), (1, .int a1), (2, .int a2), (3, .int a3), (4, .int a4), (5, .int a5), (6, .int a6)] := hl
  have B75 : ∀ (h : MHp) (H : Heap) (locs : List Loc) (ls : Array Slot) (a0 : Nat) , mHp (gD G) (gC G) (gB G) h H → va_S (fun q => gB G ≤ q) s.heap H locs → lv_has ls 8 [(0, va_rf (some a0))] → mX16_row_b75 h a0 = some res → W p l e ({ frames := 2, cells := 0, slots := 0, locals := 44 }) s m args below meth c H locs 0 0 Q (F0 m 75 ls []) := by
    intro h H locs ls a0 hm hs hl hh
    unfold mX16_row_b75 at hh
    refine r_aload_n C.1 C.2.1 dX16_row_75 rfl (lv_at hl 0 rfl) ?_
    refine lv_iconst (v := 2) C.1 C.2.1 dX16_row_76 (by decide) ?_
    refine r_cV C X hm hs mlX16_293 mvX16_293 hh (vv := fun r => some (.int r.1)) (hp := fun r => r.2) (fun b r hg => c_X16_refused l G h b _ r hg) rfl rfl (Nat.le_of_ble_eq_true rfl) (Nat.le_of_ble_eq_true rfl) (Nat.le_of_ble_eq_true rfl) hl.1 dX16_row_77 (fun b2 r1 H locs hgr1 hh hm hs => ?_)
    refine W.eq (g2 := F0 m 80 ls [.int r1.1]) rfl ?_
    exact r_iretW hQ C hr hm hs hh dX16_row_80
  unfold mX16_row at hh
  refine r_aload_n C.1 C.2.1 dX16_row_0 rfl (lv_at hl 0 rfl) ?_
  refine lv_iconst (v := 0) C.1 C.2.1 dX16_row_1 (by decide) ?_
  refine r_putI C hm hs flX16_109 (Or.inl fm_17_0) dX16_row_2 hh (fun h3 H locs _ hh hm hs => ?_)
  refine r_aload_n C.1 C.2.1 dX16_row_5 rfl (lv_at hl 0 rfl) ?_
  refine r_getR C hm flX16_274 dX16_row_6 hh (fun x4 _ hh => ?_)
  refine r_ifnonnull (tgt := 18) C.1 C.2.1 dX16_row_9 (by decide) (fun c66 => ?_) (fun c66 => ?_)
  · rw [if_neg c66] at hh
    refine r_aload_n C.1 C.2.1 dX16_row_18 rfl (lv_at hl 0 rfl) ?_
    refine lv_iconst (v := 0) C.1 C.2.1 dX16_row_19 (by decide) ?_
    refine lv_iload_n C.1 C.2.1 dX16_row_20 rfl (lv_at hl 1 rfl) ?_
    refine r_cV C X hm hs mlX16_332 mvX16_332 hh (vv := fun r => some (.int r)) (hp := fun r => h3) (fun b r hg => c_X16_isValue l G h3 b _ _ r hg) rfl rfl (Nat.le_of_ble_eq_true rfl) (Nat.le_of_ble_eq_true rfl) (Nat.le_of_ble_eq_true rfl) hl.1 dX16_row_21 (fun b6 r5 H locs hgr5 hh hm hs => ?_)
    refine W.eq (g2 := F0 m 24 ls [.int r5]) rfl ?_
    refine lv_if_eq (tgt := 75) C.1 C.2.1 dX16_row_24 (by decide) (fun c63 => ?_) (fun c63 => ?_)
    · rw [if_pos c63] at hh
      exact B75 _ _ _ _ _  hm hs (lv_sub hl [0] rfl) hh
    · rw [if_neg c63] at hh
      refine r_aload_n C.1 C.2.1 dX16_row_27 rfl (lv_at hl 0 rfl) ?_
      refine lv_iconst (v := 1) C.1 C.2.1 dX16_row_28 (by decide) ?_
      refine lv_iload_n C.1 C.2.1 dX16_row_29 rfl (lv_at hl 2 rfl) ?_
      refine r_cV C X hm hs mlX16_332 mvX16_332 hh (vv := fun r => some (.int r)) (hp := fun r => h3) (fun b r hg => c_X16_isValue l G h3 b _ _ r hg) rfl rfl (Nat.le_of_ble_eq_true rfl) (Nat.le_of_ble_eq_true rfl) (Nat.le_of_ble_eq_true rfl) hl.1 dX16_row_30 (fun b8 r7 H locs hgr7 hh hm hs => ?_)
      refine W.eq (g2 := F0 m 33 ls [.int r7]) rfl ?_
      refine lv_if_eq (tgt := 75) C.1 C.2.1 dX16_row_33 (by decide) (fun c62 => ?_) (fun c62 => ?_)
      · rw [if_pos c62] at hh
        exact B75 _ _ _ _ _  hm hs (lv_sub hl [0] rfl) hh
      · rw [if_neg c62] at hh
        refine r_aload_n C.1 C.2.1 dX16_row_36 rfl (lv_at hl 0 rfl) ?_
        refine lv_iconst (v := 2) C.1 C.2.1 dX16_row_37 (by decide) ?_
        refine lv_iload_n C.1 C.2.1 dX16_row_38 rfl (lv_at hl 3 rfl) ?_
        refine r_cV C X hm hs mlX16_332 mvX16_332 hh (vv := fun r => some (.int r)) (hp := fun r => h3) (fun b r hg => c_X16_isValue l G h3 b _ _ r hg) rfl rfl (Nat.le_of_ble_eq_true rfl) (Nat.le_of_ble_eq_true rfl) (Nat.le_of_ble_eq_true rfl) hl.1 dX16_row_39 (fun b10 r9 H locs hgr9 hh hm hs => ?_)
        refine W.eq (g2 := F0 m 42 ls [.int r9]) rfl ?_
        refine lv_if_eq (tgt := 75) C.1 C.2.1 dX16_row_42 (by decide) (fun c61 => ?_) (fun c61 => ?_)
        · rw [if_pos c61] at hh
          exact B75 _ _ _ _ _  hm hs (lv_sub hl [0] rfl) hh
        · rw [if_neg c61] at hh
          refine r_aload_n C.1 C.2.1 dX16_row_45 rfl (lv_at hl 0 rfl) ?_
          refine lv_iconst (v := 3) C.1 C.2.1 dX16_row_46 (by decide) ?_
          refine lv_iload C.1 C.2.1 dX16_row_47 (lv_at hl 4 rfl) ?_
          refine r_cV C X hm hs mlX16_332 mvX16_332 hh (vv := fun r => some (.int r)) (hp := fun r => h3) (fun b r hg => c_X16_isValue l G h3 b _ _ r hg) rfl rfl (Nat.le_of_ble_eq_true rfl) (Nat.le_of_ble_eq_true rfl) (Nat.le_of_ble_eq_true rfl) hl.1 dX16_row_49 (fun b12 r11 H locs hgr11 hh hm hs => ?_)
          refine W.eq (g2 := F0 m 52 ls [.int r11]) rfl ?_
          refine lv_if_eq (tgt := 75) C.1 C.2.1 dX16_row_52 (by decide) (fun c60 => ?_) (fun c60 => ?_)
          · rw [if_pos c60] at hh
            exact B75 _ _ _ _ _  hm hs (lv_sub hl [0] rfl) hh
          · rw [if_neg c60] at hh
            refine r_aload_n C.1 C.2.1 dX16_row_55 rfl (lv_at hl 0 rfl) ?_
            refine lv_iconst (v := 4) C.1 C.2.1 dX16_row_56 (by decide) ?_
            refine lv_iload C.1 C.2.1 dX16_row_57 (lv_at hl 5 rfl) ?_
            refine r_cV C X hm hs mlX16_332 mvX16_332 hh (vv := fun r => some (.int r)) (hp := fun r => h3) (fun b r hg => c_X16_isValue l G h3 b _ _ r hg) rfl rfl (Nat.le_of_ble_eq_true rfl) (Nat.le_of_ble_eq_true rfl) (Nat.le_of_ble_eq_true rfl) hl.1 dX16_row_59 (fun b14 r13 H locs hgr13 hh hm hs => ?_)
            refine W.eq (g2 := F0 m 62 ls [.int r13]) rfl ?_
            refine lv_if_eq (tgt := 75) C.1 C.2.1 dX16_row_62 (by decide) (fun c59 => ?_) (fun c59 => ?_)
            · rw [if_pos c59] at hh
              exact B75 _ _ _ _ _  hm hs (lv_sub hl [0] rfl) hh
            · rw [if_neg c59] at hh
              refine r_aload_n C.1 C.2.1 dX16_row_65 rfl (lv_at hl 0 rfl) ?_
              refine lv_iconst (v := 5) C.1 C.2.1 dX16_row_66 (by decide) ?_
              refine lv_iload C.1 C.2.1 dX16_row_67 (lv_at hl 6 rfl) ?_
              refine r_cV C X hm hs mlX16_332 mvX16_332 hh (vv := fun r => some (.int r)) (hp := fun r => h3) (fun b r hg => c_X16_isValue l G h3 b _ _ r hg) rfl rfl (Nat.le_of_ble_eq_true rfl) (Nat.le_of_ble_eq_true rfl) (Nat.le_of_ble_eq_true rfl) hl.1 dX16_row_69 (fun b16 r15 H locs hgr15 hh hm hs => ?_)
              refine W.eq (g2 := F0 m 72 ls [.int r15]) rfl ?_
              refine lv_if_ne (tgt := 81) C.1 C.2.1 dX16_row_72 (by decide) (fun c58 => ?_) (fun c58 => ?_)
              · rw [if_neg c58] at hh
                refine r_aload_n C.1 C.2.1 dX16_row_81 rfl (lv_at hl 0 rfl) ?_
                refine r_getI C hm flX16_308 dX16_row_82 hh (fun x17 _ hh => ?_)
                refine lv_bipush (v := 60) C.1 C.2.1 dX16_row_85 (by decide) ?_
                refine lv_icmp_ne (tgt := 96) C.1 C.2.1 dX16_row_87 (by decide) (fun c57 => ?_) (fun c57 => ?_)
                · rw [if_neg c57] at hh
                  refine lv_bipush (v := 6) C.1 C.2.1 dX16_row_96 (by decide) ?_
                  refine r_aload_n C.1 C.2.1 dX16_row_98 rfl (lv_at hl 0 rfl) ?_
                  refine r_getI C hm flX16_308 dX16_row_99 hh (fun x18 _ hh => ?_)
                  refine lv_imul C.1 C.2.1 dX16_row_102 ?_
                  refine lv_istore (i := 7) (lv' := [(7, .int (6 * x18)), (0, va_rf (some a0)), (1, .int a1), (2, .int a2), (3, .int a3), (4, .int a4), (5, .int a5), (6, .int a6)]) C.1 C.2.1 dX16_row_103 hl (by decide) rfl (fun ls hl => ?_)
                  refine r_aload_n C.1 C.2.1 dX16_row_105 rfl (lv_at hl 1 rfl) ?_
                  refine r_getR C hm flX16_30 dX16_row_106 hh (fun x19 _ hh => ?_)
                  refine lv_iload C.1 C.2.1 dX16_row_109 (lv_at hl 0 rfl) ?_
                  refine lv_iload_n C.1 C.2.1 dX16_row_111 rfl (lv_at hl 2 rfl) ?_
                  refine r_ast C hm hs dX16_row_112 hh (fun h20 H locs _ hh hm hs => ?_)
                  refine r_aload_n C.1 C.2.1 dX16_row_113 rfl (lv_at hl 1 rfl) ?_
                  refine r_getR C hm flX16_30 dX16_row_114 hh (fun x21 _ hh => ?_)
                  refine lv_iload C.1 C.2.1 dX16_row_117 (lv_at hl 0 rfl) ?_
                  refine lv_iconst (v := 1) C.1 C.2.1 dX16_row_119 (by decide) ?_
                  refine lv_iadd C.1 C.2.1 dX16_row_120 ?_
                  refine lv_iload_n C.1 C.2.1 dX16_row_121 rfl (lv_at hl 3 rfl) ?_
                  refine r_ast C hm hs dX16_row_122 hh (fun h22 H locs _ hh hm hs => ?_)
                  refine r_aload_n C.1 C.2.1 dX16_row_123 rfl (lv_at hl 1 rfl) ?_
                  refine r_getR C hm flX16_30 dX16_row_124 hh (fun x23 _ hh => ?_)
                  refine lv_iload C.1 C.2.1 dX16_row_127 (lv_at hl 0 rfl) ?_
                  refine lv_iconst (v := 2) C.1 C.2.1 dX16_row_129 (by decide) ?_
                  refine lv_iadd C.1 C.2.1 dX16_row_130 ?_
                  refine lv_iload_n C.1 C.2.1 dX16_row_131 rfl (lv_at hl 4 rfl) ?_
                  refine r_ast C hm hs dX16_row_132 hh (fun h24 H locs _ hh hm hs => ?_)
                  refine r_aload_n C.1 C.2.1 dX16_row_133 rfl (lv_at hl 1 rfl) ?_
                  refine r_getR C hm flX16_30 dX16_row_134 hh (fun x25 _ hh => ?_)
                  refine lv_iload C.1 C.2.1 dX16_row_137 (lv_at hl 0 rfl) ?_
                  refine lv_iconst (v := 3) C.1 C.2.1 dX16_row_139 (by decide) ?_
                  refine lv_iadd C.1 C.2.1 dX16_row_140 ?_
                  refine lv_iload C.1 C.2.1 dX16_row_141 (lv_at hl 5 rfl) ?_
                  refine r_ast C hm hs dX16_row_143 hh (fun h26 H locs _ hh hm hs => ?_)
                  refine r_aload_n C.1 C.2.1 dX16_row_144 rfl (lv_at hl 1 rfl) ?_
                  refine r_getR C hm flX16_30 dX16_row_145 hh (fun x27 _ hh => ?_)
                  refine lv_iload C.1 C.2.1 dX16_row_148 (lv_at hl 0 rfl) ?_
                  refine lv_iconst (v := 4) C.1 C.2.1 dX16_row_150 (by decide) ?_
                  refine lv_iadd C.1 C.2.1 dX16_row_151 ?_
                  refine lv_iload C.1 C.2.1 dX16_row_152 (lv_at hl 6 rfl) ?_
                  refine r_ast C hm hs dX16_row_154 hh (fun h28 H locs _ hh hm hs => ?_)
                  refine r_aload_n C.1 C.2.1 dX16_row_155 rfl (lv_at hl 1 rfl) ?_
                  refine r_getR C hm flX16_30 dX16_row_156 hh (fun x29 _ hh => ?_)
                  refine lv_iload C.1 C.2.1 dX16_row_159 (lv_at hl 0 rfl) ?_
                  refine lv_iconst (v := 5) C.1 C.2.1 dX16_row_161 (by decide) ?_
                  refine lv_iadd C.1 C.2.1 dX16_row_162 ?_
                  refine lv_iload C.1 C.2.1 dX16_row_163 (lv_at hl 7 rfl) ?_
                  refine r_ast C hm hs dX16_row_165 hh (fun h30 H locs _ hh hm hs => ?_)
                  refine r_aload_n C.1 C.2.1 dX16_row_166 rfl (lv_at hl 1 rfl) ?_
                  refine r_getR C hm flX16_40 dX16_row_167 hh (fun x31 _ hh => ?_)
                  refine r_aload_n C.1 C.2.1 dX16_row_170 rfl (lv_at hl 1 rfl) ?_
                  refine r_getI C hm flX16_308 dX16_row_171 hh (fun x32 _ hh => ?_)
                  refine r_aload_n C.1 C.2.1 dX16_row_174 rfl (lv_at hl 1 rfl) ?_
                  refine r_getI C hm flX16_314 dX16_row_175 hh (fun x33 _ hh => ?_)
                  refine r_ast C hm hs dX16_row_178 hh (fun h34 H locs _ hh hm hs => ?_)
                  refine r_aload_n C.1 C.2.1 dX16_row_179 rfl (lv_at hl 1 rfl) ?_
                  refine r_getR C hm flX16_43 dX16_row_180 hh (fun x35 _ hh => ?_)
                  refine r_aload_n C.1 C.2.1 dX16_row_183 rfl (lv_at hl 1 rfl) ?_
                  refine r_getI C hm flX16_308 dX16_row_184 hh (fun x36 _ hh => ?_)
                  refine lv_iconst (v := (-1)) C.1 C.2.1 dX16_row_187 (by decide) ?_
                  refine r_ast C hm hs dX16_row_188 hh (fun h37 H locs _ hh hm hs => ?_)
                  refine r_aload_n C.1 C.2.1 dX16_row_189 rfl (lv_at hl 1 rfl) ?_
                  refine r_getR C hm flX16_46 dX16_row_190 hh (fun x38 _ hh => ?_)
                  refine r_aload_n C.1 C.2.1 dX16_row_193 rfl (lv_at hl 1 rfl) ?_
                  refine r_getI C hm flX16_308 dX16_row_194 hh (fun x39 _ hh => ?_)
                  refine lv_iconst (v := (-1)) C.1 C.2.1 dX16_row_197 (by decide) ?_
                  refine r_ast C hm hs dX16_row_198 hh (fun h40 H locs _ hh hm hs => ?_)
                  refine r_aload_n C.1 C.2.1 dX16_row_199 rfl (lv_at hl 1 rfl) ?_
                  refine r_getR C hm flX16_49 dX16_row_200 hh (fun x41 _ hh => ?_)
                  refine r_aload_n C.1 C.2.1 dX16_row_203 rfl (lv_at hl 1 rfl) ?_
                  refine r_getI C hm flX16_308 dX16_row_204 hh (fun x42 _ hh => ?_)
                  refine lv_iconst (v := 0) C.1 C.2.1 dX16_row_207 (by decide) ?_
                  refine r_ast C hm hs dX16_row_208 hh (fun h43 H locs _ hh hm hs => ?_)
                  refine r_aload_n C.1 C.2.1 dX16_row_209 rfl (lv_at hl 1 rfl) ?_
                  refine r_getR C hm flX16_52 dX16_row_210 hh (fun x44 _ hh => ?_)
                  refine r_aload_n C.1 C.2.1 dX16_row_213 rfl (lv_at hl 1 rfl) ?_
                  refine r_getI C hm flX16_308 dX16_row_214 hh (fun x45 _ hh => ?_)
                  refine lv_iconst (v := (-1)) C.1 C.2.1 dX16_row_217 (by decide) ?_
                  refine r_ast C hm hs dX16_row_218 hh (fun h46 H locs _ hh hm hs => ?_)
                  refine r_aload_n C.1 C.2.1 dX16_row_219 rfl (lv_at hl 1 rfl) ?_
                  refine r_getR C hm flX16_55 dX16_row_220 hh (fun x47 _ hh => ?_)
                  refine r_aload_n C.1 C.2.1 dX16_row_223 rfl (lv_at hl 1 rfl) ?_
                  refine r_getI C hm flX16_308 dX16_row_224 hh (fun x48 _ hh => ?_)
                  refine lv_iconst (v := 1) C.1 C.2.1 dX16_row_227 (by decide) ?_
                  refine r_ast C hm hs dX16_row_228 hh (fun h49 H locs _ hh hm hs => ?_)
                  refine r_aload_n C.1 C.2.1 dX16_row_229 rfl (lv_at hl 1 rfl) ?_
                  refine lv_dup C.1 C.2.1 dX16_row_230 (va_cat _) ?_
                  refine r_getI C hm flX16_308 dX16_row_231 hh (fun x50 _ hh => ?_)
                  refine lv_iconst (v := 1) C.1 C.2.1 dX16_row_234 (by decide) ?_
                  refine lv_iadd C.1 C.2.1 dX16_row_235 ?_
                  refine r_putI C hm hs flX16_308 (Or.inl fm_17_18) dX16_row_236 hh (fun h51 H locs _ hh hm hs => ?_)
                  refine r_aload_n C.1 C.2.1 dX16_row_239 rfl (lv_at hl 1 rfl) ?_
                  refine r_aload_n C.1 C.2.1 dX16_row_240 rfl (lv_at hl 1 rfl) ?_
                  refine r_getI C hm flX16_308 dX16_row_241 hh (fun x52 _ hh => ?_)
                  refine lv_iconst (v := 1) C.1 C.2.1 dX16_row_244 (by decide) ?_
                  refine lv_isub C.1 C.2.1 dX16_row_245 ?_
                  refine r_cV C X hm hs mlX16_323 mvX16_323 hh (vv := fun r => some (.int r.1)) (hp := fun r => r.2) (fun b r hg => c_X16_done l G h51 b _ r hg) rfl rfl (Nat.le_of_ble_eq_true rfl) (Nat.le_of_ble_eq_true rfl) (Nat.le_of_ble_eq_true rfl) hl.1 dX16_row_246 (fun b54 r53 H locs hgr53 hh hm hs => ?_)
                  refine W.eq (g2 := F0 m 249 ls [.int r53.1]) rfl ?_
                  exact r_iretW hQ C hr hm hs hh dX16_row_249
                · rw [if_pos c57] at hh
                  refine r_aload_n C.1 C.2.1 dX16_row_90 rfl (lv_at hl 0 rfl) ?_
                  refine lv_iconst (v := 3) C.1 C.2.1 dX16_row_91 (by decide) ?_
                  refine r_cV C X hm hs mlX16_293 mvX16_293 hh (vv := fun r => some (.int r.1)) (hp := fun r => r.2) (fun b r hg => c_X16_refused l G h3 b _ r hg) rfl rfl (Nat.le_of_ble_eq_true rfl) (Nat.le_of_ble_eq_true rfl) (Nat.le_of_ble_eq_true rfl) hl.1 dX16_row_92 (fun b56 r55 H locs hgr55 hh hm hs => ?_)
                  refine W.eq (g2 := F0 m 95 ls [.int r55.1]) rfl ?_
                  exact r_iretW hQ C hr hm hs hh dX16_row_95
              · rw [if_pos c58] at hh
                exact B75 _ _ _ _ _  hm hs (lv_sub hl [0] rfl) hh
  · rw [if_pos c66] at hh
    refine r_aload_n C.1 C.2.1 dX16_row_12 rfl (lv_at hl 0 rfl) ?_
    refine lv_iconst (v := 1) C.1 C.2.1 dX16_row_13 (by decide) ?_
    refine r_cV C X hm hs mlX16_293 mvX16_293 hh (vv := fun r => some (.int r.1)) (hp := fun r => r.2) (fun b r hg => c_X16_refused l G h3 b _ r hg) rfl rfl (Nat.le_of_ble_eq_true rfl) (Nat.le_of_ble_eq_true rfl) (Nat.le_of_ble_eq_true rfl) hl.1 dX16_row_14 (fun b65 r64 H locs hgr64 hh hm hs => ?_)
    refine W.eq (g2 := F0 m 17 ls [.int r64.1]) rfl ?_
    exact r_iretW hQ C hr hm hs hh dX16_row_17
def mX16_weight (h : MHp) (a0 : Nat) (a1 : Int32) (a2 : Int32) : Option (Int32 × MHp) := (pI 17 0 h (some a0) 0).bind fun h1 => (rcv 17 h1 (some a0)).bind fun b3 => (mX16_isRow h1 b3 a1).bind fun r2 => (if r2 = 0 then (rcv 17 h1 (some a0)).bind fun b13 => (mX16_denied h1 b13 1).bind fun r12 => (rB r12.1).bind fun _ => some (r12.1, r12.2) else (mX16_in h1 a2 1 99).bind fun r4 => (if r4 = 0 then (rcv 17 h1 (some a0)).bind fun b10 => (mX16_denied h1 b10 2).bind fun r9 => (rB r9.1).bind fun _ => some (r9.1, r9.2) else (gR 17 28 h1 (some a0)).bind fun x5 => (pAI 20 h1 x5 a1 a2).bind fun h6 => (rcv 17 h6 (some a0)).bind fun b8 => (mX16_granted h6 b8).bind fun r7 => (rB r7.1).bind fun _ => some (r7.1, r7.2)))
set_option maxRecDepth 100000 in
set_option maxHeartbeats 4000000 in
theorem c_X16_weight (l : Launch) (G : Env0) (h : MHp) (a0 : Nat) (a1 : Int32) (a2 : Int32) (res : Int32 × MHp) (hh : mX16_weight h a0 a1 a2 = some res) : MG l yX16_weight cX16_weight 3 (some .boolean) 1 22 0 0 G h [.ref a0, .int a1, .int a2] (some (.int res.1)) (res.2) := by
  refine MG_of (own := RX16) (plainFor_of_name (by decide)) rfl (Nat.le_of_ble_eq_true rfl) ?_
  intro p e s m args below meth c Q ls hQ C X hin hm hs hl hr
  have hl : lv_has ls 3 [(0, va_rf (some a0)), (1, .int a1), (2, .int a2)] := hl
  unfold mX16_weight at hh
  refine r_aload_n C.1 C.2.1 dX16_weight_0 rfl (lv_at hl 0 rfl) ?_
  refine lv_iconst (v := 0) C.1 C.2.1 dX16_weight_1 (by decide) ?_
  refine r_putI C hm hs flX16_109 (Or.inl fm_17_0) dX16_weight_2 hh (fun h1 H locs _ hh hm hs => ?_)
  refine r_aload_n C.1 C.2.1 dX16_weight_5 rfl (lv_at hl 0 rfl) ?_
  refine lv_iload_n C.1 C.2.1 dX16_weight_6 rfl (lv_at hl 1 rfl) ?_
  refine r_cV C X hm hs mlX16_336 mvX16_336 hh (vv := fun r => some (.int r)) (hp := fun r => h1) (fun b r hg => c_X16_isRow l G h1 b _ r hg) rfl rfl (Nat.le_of_ble_eq_true rfl) (Nat.le_of_ble_eq_true rfl) (Nat.le_of_ble_eq_true rfl) hl.1 dX16_weight_7 (fun b3 r2 H locs hgr2 hh hm hs => ?_)
  refine W.eq (g2 := F0 m 10 ls [.int r2]) rfl ?_
  refine lv_if_ne (tgt := 19) C.1 C.2.1 dX16_weight_10 (by decide) (fun c14 => ?_) (fun c14 => ?_)
  · rw [if_neg c14] at hh
    refine lv_iload_n C.1 C.2.1 dX16_weight_19 rfl (lv_at hl 2 rfl) ?_
    refine lv_iconst (v := 1) C.1 C.2.1 dX16_weight_20 (by decide) ?_
    refine lv_bipush (v := 99) C.1 C.2.1 dX16_weight_21 (by decide) ?_
    refine r_cS C X hm hs mlX16_231 msX16_231 hh (vv := fun r => some (.int r)) (hp := fun r => h1) (fun r hg => c_X16_in l G h1 _ _ _ r hg) rfl rfl (Nat.le_of_ble_eq_true rfl) (Nat.le_of_ble_eq_true rfl) (Nat.le_of_ble_eq_true rfl) hl.1 dX16_weight_23 (fun r4 H locs hgr4 hh hm hs => ?_)
    refine W.eq (g2 := F0 m 26 ls [.int r4]) rfl ?_
    refine lv_if_ne (tgt := 35) C.1 C.2.1 dX16_weight_26 (by decide) (fun c11 => ?_) (fun c11 => ?_)
    · rw [if_neg c11] at hh
      refine r_aload_n C.1 C.2.1 dX16_weight_35 rfl (lv_at hl 0 rfl) ?_
      refine r_getR C hm flX16_55 dX16_weight_36 hh (fun x5 _ hh => ?_)
      refine lv_iload_n C.1 C.2.1 dX16_weight_39 rfl (lv_at hl 1 rfl) ?_
      refine lv_iload_n C.1 C.2.1 dX16_weight_40 rfl (lv_at hl 2 rfl) ?_
      refine r_ast C hm hs dX16_weight_41 hh (fun h6 H locs _ hh hm hs => ?_)
      refine r_aload_n C.1 C.2.1 dX16_weight_42 rfl (lv_at hl 0 rfl) ?_
      refine r_cV C X hm hs mlX16_342 mvX16_342 hh (vv := fun r => some (.int r.1)) (hp := fun r => r.2) (fun b r hg => c_X16_granted l G h6 b  r hg) rfl rfl (Nat.le_of_ble_eq_true rfl) (Nat.le_of_ble_eq_true rfl) (Nat.le_of_ble_eq_true rfl) hl.1 dX16_weight_43 (fun b8 r7 H locs hgr7 hh hm hs => ?_)
      refine W.eq (g2 := F0 m 46 ls [.int r7.1]) rfl ?_
      exact r_rbretW hQ C hr hm hs hh dX16_weight_46
    · rw [if_pos c11] at hh
      refine r_aload_n C.1 C.2.1 dX16_weight_29 rfl (lv_at hl 0 rfl) ?_
      refine lv_iconst (v := 2) C.1 C.2.1 dX16_weight_30 (by decide) ?_
      refine r_cV C X hm hs mlX16_339 mvX16_339 hh (vv := fun r => some (.int r.1)) (hp := fun r => r.2) (fun b r hg => c_X16_denied l G h1 b _ r hg) rfl rfl (Nat.le_of_ble_eq_true rfl) (Nat.le_of_ble_eq_true rfl) (Nat.le_of_ble_eq_true rfl) hl.1 dX16_weight_31 (fun b10 r9 H locs hgr9 hh hm hs => ?_)
      refine W.eq (g2 := F0 m 34 ls [.int r9.1]) rfl ?_
      exact r_rbretW hQ C hr hm hs hh dX16_weight_34
  · rw [if_pos c14] at hh
    refine r_aload_n C.1 C.2.1 dX16_weight_13 rfl (lv_at hl 0 rfl) ?_
    refine lv_iconst (v := 1) C.1 C.2.1 dX16_weight_14 (by decide) ?_
    refine r_cV C X hm hs mlX16_339 mvX16_339 hh (vv := fun r => some (.int r.1)) (hp := fun r => r.2) (fun b r hg => c_X16_denied l G h1 b _ r hg) rfl rfl (Nat.le_of_ble_eq_true rfl) (Nat.le_of_ble_eq_true rfl) (Nat.le_of_ble_eq_true rfl) hl.1 dX16_weight_15 (fun b13 r12 H locs hgr12 hh hm hs => ?_)
    refine W.eq (g2 := F0 m 18 ls [.int r12.1]) rfl ?_
    exact r_rbretW hQ C hr hm hs hh dX16_weight_18
def mX16_withdraw (h : MHp) (a0 : Nat) (a1 : Int32) : Option (Int32 × MHp) := (pI 17 0 h (some a0) 0).bind fun h1 => (rcv 17 h1 (some a0)).bind fun b3 => (mX16_isRow h1 b3 a1).bind fun r2 => (if r2 = 0 then (rcv 17 h1 (some a0)).bind fun b15 => (mX16_denied h1 b15 1).bind fun r14 => (rB r14.1).bind fun _ => some (r14.1, r14.2) else (gR 17 24 h1 (some a0)).bind fun x4 => (gAI 20 h1 x4 a1).bind fun x5 => (if x5 = (-1) then (gR 17 24 h1 (some a0)).bind fun x6 => (gI 17 19 h1 (some a0)).bind fun x7 => (pAI 20 h1 x6 a1 x7).bind fun h8 => (rcv 17 h8 (some a0)).bind fun b10 => (mX16_granted h8 b10).bind fun r9 => (rB r9.1).bind fun _ => some (r9.1, r9.2) else (rcv 17 h1 (some a0)).bind fun b12 => (mX16_denied h1 b12 5).bind fun r11 => (rB r11.1).bind fun _ => some (r11.1, r11.2)))
set_option maxRecDepth 100000 in
set_option maxHeartbeats 4000000 in
theorem c_X16_withdraw (l : Launch) (G : Env0) (h : MHp) (a0 : Nat) (a1 : Int32) (res : Int32 × MHp) (hh : mX16_withdraw h a0 a1 = some res) : MG l yX16_withdraw cX16_withdraw 2 (some .boolean) 1 21 0 0 G h [.ref a0, .int a1] (some (.int res.1)) (res.2) := by
  refine MG_of (own := RX16) (plainFor_of_name (by decide)) rfl (Nat.le_of_ble_eq_true rfl) ?_
  intro p e s m args below meth c Q ls hQ C X hin hm hs hl hr
  have hl : lv_has ls 2 [(0, va_rf (some a0)), (1, .int a1)] := hl
  unfold mX16_withdraw at hh
  refine r_aload_n C.1 C.2.1 dX16_withdraw_0 rfl (lv_at hl 0 rfl) ?_
  refine lv_iconst (v := 0) C.1 C.2.1 dX16_withdraw_1 (by decide) ?_
  refine r_putI C hm hs flX16_109 (Or.inl fm_17_0) dX16_withdraw_2 hh (fun h1 H locs _ hh hm hs => ?_)
  refine r_aload_n C.1 C.2.1 dX16_withdraw_5 rfl (lv_at hl 0 rfl) ?_
  refine lv_iload_n C.1 C.2.1 dX16_withdraw_6 rfl (lv_at hl 1 rfl) ?_
  refine r_cV C X hm hs mlX16_336 mvX16_336 hh (vv := fun r => some (.int r)) (hp := fun r => h1) (fun b r hg => c_X16_isRow l G h1 b _ r hg) rfl rfl (Nat.le_of_ble_eq_true rfl) (Nat.le_of_ble_eq_true rfl) (Nat.le_of_ble_eq_true rfl) hl.1 dX16_withdraw_7 (fun b3 r2 H locs hgr2 hh hm hs => ?_)
  refine W.eq (g2 := F0 m 10 ls [.int r2]) rfl ?_
  refine lv_if_ne (tgt := 19) C.1 C.2.1 dX16_withdraw_10 (by decide) (fun c16 => ?_) (fun c16 => ?_)
  · rw [if_neg c16] at hh
    refine r_aload_n C.1 C.2.1 dX16_withdraw_19 rfl (lv_at hl 0 rfl) ?_
    refine r_getR C hm flX16_43 dX16_withdraw_20 hh (fun x4 _ hh => ?_)
    refine lv_iload_n C.1 C.2.1 dX16_withdraw_23 rfl (lv_at hl 1 rfl) ?_
    refine r_ald C hm dX16_withdraw_24 hh (fun x5 _ hh => ?_)
    refine lv_iconst (v := (-1)) C.1 C.2.1 dX16_withdraw_25 (by decide) ?_
    refine lv_icmp_eq (tgt := 35) C.1 C.2.1 dX16_withdraw_26 (by decide) (fun c13 => ?_) (fun c13 => ?_)
    · rw [if_pos c13] at hh
      refine r_aload_n C.1 C.2.1 dX16_withdraw_35 rfl (lv_at hl 0 rfl) ?_
      refine r_getR C hm flX16_43 dX16_withdraw_36 hh (fun x6 _ hh => ?_)
      refine lv_iload_n C.1 C.2.1 dX16_withdraw_39 rfl (lv_at hl 1 rfl) ?_
      refine r_aload_n C.1 C.2.1 dX16_withdraw_40 rfl (lv_at hl 0 rfl) ?_
      refine r_getI C hm flX16_314 dX16_withdraw_41 hh (fun x7 _ hh => ?_)
      refine r_ast C hm hs dX16_withdraw_44 hh (fun h8 H locs _ hh hm hs => ?_)
      refine r_aload_n C.1 C.2.1 dX16_withdraw_45 rfl (lv_at hl 0 rfl) ?_
      refine r_cV C X hm hs mlX16_342 mvX16_342 hh (vv := fun r => some (.int r.1)) (hp := fun r => r.2) (fun b r hg => c_X16_granted l G h8 b  r hg) rfl rfl (Nat.le_of_ble_eq_true rfl) (Nat.le_of_ble_eq_true rfl) (Nat.le_of_ble_eq_true rfl) hl.1 dX16_withdraw_46 (fun b10 r9 H locs hgr9 hh hm hs => ?_)
      refine W.eq (g2 := F0 m 49 ls [.int r9.1]) rfl ?_
      exact r_rbretW hQ C hr hm hs hh dX16_withdraw_49
    · rw [if_neg c13] at hh
      refine r_aload_n C.1 C.2.1 dX16_withdraw_29 rfl (lv_at hl 0 rfl) ?_
      refine lv_iconst (v := 5) C.1 C.2.1 dX16_withdraw_30 (by decide) ?_
      refine r_cV C X hm hs mlX16_339 mvX16_339 hh (vv := fun r => some (.int r.1)) (hp := fun r => r.2) (fun b r hg => c_X16_denied l G h1 b _ r hg) rfl rfl (Nat.le_of_ble_eq_true rfl) (Nat.le_of_ble_eq_true rfl) (Nat.le_of_ble_eq_true rfl) hl.1 dX16_withdraw_31 (fun b12 r11 H locs hgr11 hh hm hs => ?_)
      refine W.eq (g2 := F0 m 34 ls [.int r11.1]) rfl ?_
      exact r_rbretW hQ C hr hm hs hh dX16_withdraw_34
  · rw [if_pos c16] at hh
    refine r_aload_n C.1 C.2.1 dX16_withdraw_13 rfl (lv_at hl 0 rfl) ?_
    refine lv_iconst (v := 1) C.1 C.2.1 dX16_withdraw_14 (by decide) ?_
    refine r_cV C X hm hs mlX16_339 mvX16_339 hh (vv := fun r => some (.int r.1)) (hp := fun r => r.2) (fun b r hg => c_X16_denied l G h1 b _ r hg) rfl rfl (Nat.le_of_ble_eq_true rfl) (Nat.le_of_ble_eq_true rfl) (Nat.le_of_ble_eq_true rfl) hl.1 dX16_withdraw_15 (fun b15 r14 H locs hgr14 hh hm hs => ?_)
    refine W.eq (g2 := F0 m 18 ls [.int r14.1]) rfl ?_
    exact r_rbretW hQ C hr hm hs hh dX16_withdraw_18
def mX16_valueOf_b100 (h : MHp) (a0 : Nat) (v5 : Int32) : Option (Int32) := (gR 17 20 h (some a0)).bind fun x1 => (gAI 20 h x1 v5).bind fun x2 => some x2
def mX16_valueOf_b50 (h : MHp) (a0 : Nat) (v1 : Int32) (v2 : Int32) (v3 : Int32) (v4 : Int32) (v5 : Int32) : Option (Int32) := (gR 17 20 h (some a0)).bind fun x3 => (gAI 20 h x3 v5).bind fun x4 => (if x4 = (-1) then (gR 17 27 h (some a0)).bind fun x5 => (gAI 20 h x5 v1).bind fun x6 => (if x6 = (-1) then mX16_valueOf_b100 h a0 v5 else (gR 17 27 h (some a0)).bind fun x7 => (gAI 20 h x7 v1).bind fun x8 => (if v3 < x8 then mX16_valueOf_b100 h a0 v5 else (gR 17 22 h (some a0)).bind fun x9 => (gAI 20 h x9 ((6 * ((5 * v1) + v4)) + v2)).bind fun x10 => some x10)) else mX16_valueOf_b100 h a0 v5)
def mX16_valueOf (h : MHp) (a0 : Nat) (a1 : Int32) (a2 : Int32) (a3 : Int32) (a4 : Int32) : Option (Int32) := (gR 17 25 h (some a0)).bind fun x14 => (gAI 20 h x14 a1).bind fun x15 => (if x15 = (-1) then mX16_valueOf_b50 h a0 a1 a2 a3 a4 ((6 * a1) + a2) else (gR 17 25 h (some a0)).bind fun x16 => (gAI 20 h x16 a1).bind fun x17 => (if a3 < x17 then mX16_valueOf_b50 h a0 a1 a2 a3 a4 ((6 * a1) + a2) else (gR 17 26 h (some a0)).bind fun x18 => (gAI 20 h x18 a1).bind fun x19 => (if ((x19 >>> (a2 &&& 31)) &&& 1) = 1 then (gR 17 21 h (some a0)).bind fun x20 => (gAI 20 h x20 ((6 * a1) + a2)).bind fun x21 => some x21 else mX16_valueOf_b50 h a0 a1 a2 a3 a4 ((6 * a1) + a2))))
set_option maxRecDepth 100000 in
set_option maxHeartbeats 4000000 in
theorem c_X16_valueOf (l : Launch) (G : Env0) (h : MHp) (a0 : Nat) (a1 : Int32) (a2 : Int32) (a3 : Int32) (a4 : Int32) (res : Int32) (hh : mX16_valueOf h a0 a1 a2 a3 a4 = some res) : MG l yX16_valueOf cX16_valueOf 6 (some .int) 0 0 0 0 G h [.ref a0, .int a1, .int a2, .int a3, .int a4] (some (.int res)) (h) := by
  refine MG_of (own := RX16) (plainFor_of_name (by decide)) rfl (Nat.le_of_ble_eq_true rfl) ?_
  intro p e s m args below meth c Q ls hQ C X hin hm hs hl hr
  have hl : lv_has ls 6 [(0, va_rf (some a0)), (1, .int a1), (2, .int a2), (3, .int a3), (4, .int a4)] := hl
  have B100 : ∀ (H : Heap) (locs : List Loc) (ls : Array Slot) (a0 : Nat) (v5 : Int32) , mHp (gD G) (gC G) (gB G) h H → va_S (fun q => gB G ≤ q) s.heap H locs → lv_has ls 6 [(0, va_rf (some a0)), (5, .int v5)] → mX16_valueOf_b100 h a0 v5 = some res → W p l e ({ frames := 0, cells := 0, slots := 0, locals := 0 }) s m args below meth c H locs 0 0 Q (F0 m 100 ls []) := by
    intro H locs ls a0 v5 hm hs hl hh
    unfold mX16_valueOf_b100 at hh
    refine r_aload_n C.1 C.2.1 dX16_valueOf_100 rfl (lv_at hl 0 rfl) ?_
    refine r_getR C hm flX16_30 dX16_valueOf_101 hh (fun x1 _ hh => ?_)
    refine lv_iload C.1 C.2.1 dX16_valueOf_104 (lv_at hl 1 rfl) ?_
    refine r_ald C hm dX16_valueOf_106 hh (fun x2 _ hh => ?_)
    exact r_iretP hQ C hr hm hs hh dX16_valueOf_107
  have B50 : ∀ (H : Heap) (locs : List Loc) (ls : Array Slot) (a0 : Nat) (v1 : Int32) (v2 : Int32) (v3 : Int32) (v4 : Int32) (v5 : Int32) , mHp (gD G) (gC G) (gB G) h H → va_S (fun q => gB G ≤ q) s.heap H locs → lv_has ls 6 [(0, va_rf (some a0)), (1, .int v1), (2, .int v2), (3, .int v3), (4, .int v4), (5, .int v5)] → mX16_valueOf_b50 h a0 v1 v2 v3 v4 v5 = some res → W p l e ({ frames := 0, cells := 0, slots := 0, locals := 0 }) s m args below meth c H locs 0 0 Q (F0 m 50 ls []) := by
    intro H locs ls a0 v1 v2 v3 v4 v5 hm hs hl hh
    unfold mX16_valueOf_b50 at hh
    refine r_aload_n C.1 C.2.1 dX16_valueOf_50 rfl (lv_at hl 0 rfl) ?_
    refine r_getR C hm flX16_30 dX16_valueOf_51 hh (fun x3 _ hh => ?_)
    refine lv_iload C.1 C.2.1 dX16_valueOf_54 (lv_at hl 5 rfl) ?_
    refine r_ald C hm dX16_valueOf_56 hh (fun x4 _ hh => ?_)
    refine lv_iconst (v := (-1)) C.1 C.2.1 dX16_valueOf_57 (by decide) ?_
    refine lv_icmp_ne (tgt := 100) C.1 C.2.1 dX16_valueOf_58 (by decide) (fun c13 => ?_) (fun c13 => ?_)
    · rw [if_neg c13] at hh
      exact B100 _ _ _ _ _  hm hs (lv_sub hl [0, 5] rfl) hh
    · rw [if_pos c13] at hh
      refine r_aload_n C.1 C.2.1 dX16_valueOf_61 rfl (lv_at hl 0 rfl) ?_
      refine r_getR C hm flX16_52 dX16_valueOf_62 hh (fun x5 _ hh => ?_)
      refine lv_iload_n C.1 C.2.1 dX16_valueOf_65 rfl (lv_at hl 1 rfl) ?_
      refine r_ald C hm dX16_valueOf_66 hh (fun x6 _ hh => ?_)
      refine lv_iconst (v := (-1)) C.1 C.2.1 dX16_valueOf_67 (by decide) ?_
      refine lv_icmp_eq (tgt := 100) C.1 C.2.1 dX16_valueOf_68 (by decide) (fun c12 => ?_) (fun c12 => ?_)
      · rw [if_pos c12] at hh
        exact B100 _ _ _ _ _  hm hs (lv_sub hl [0, 5] rfl) hh
      · rw [if_neg c12] at hh
        refine lv_iload_n C.1 C.2.1 dX16_valueOf_71 rfl (lv_at hl 3 rfl) ?_
        refine r_aload_n C.1 C.2.1 dX16_valueOf_72 rfl (lv_at hl 0 rfl) ?_
        refine r_getR C hm flX16_52 dX16_valueOf_73 hh (fun x7 _ hh => ?_)
        refine lv_iload_n C.1 C.2.1 dX16_valueOf_76 rfl (lv_at hl 1 rfl) ?_
        refine r_ald C hm dX16_valueOf_77 hh (fun x8 _ hh => ?_)
        refine lv_icmp_lt (tgt := 100) C.1 C.2.1 dX16_valueOf_78 (by decide) (fun c11 => ?_) (fun c11 => ?_)
        · rw [if_pos c11] at hh
          exact B100 _ _ _ _ _  hm hs (lv_sub hl [0, 5] rfl) hh
        · rw [if_neg c11] at hh
          refine r_aload_n C.1 C.2.1 dX16_valueOf_81 rfl (lv_at hl 0 rfl) ?_
          refine r_getR C hm flX16_37 dX16_valueOf_82 hh (fun x9 _ hh => ?_)
          refine lv_bipush (v := 6) C.1 C.2.1 dX16_valueOf_85 (by decide) ?_
          refine lv_iconst (v := 5) C.1 C.2.1 dX16_valueOf_87 (by decide) ?_
          refine lv_iload_n C.1 C.2.1 dX16_valueOf_88 rfl (lv_at hl 1 rfl) ?_
          refine lv_imul C.1 C.2.1 dX16_valueOf_89 ?_
          refine lv_iload C.1 C.2.1 dX16_valueOf_90 (lv_at hl 4 rfl) ?_
          refine lv_iadd C.1 C.2.1 dX16_valueOf_92 ?_
          refine lv_imul C.1 C.2.1 dX16_valueOf_93 ?_
          refine lv_iload_n C.1 C.2.1 dX16_valueOf_94 rfl (lv_at hl 2 rfl) ?_
          refine lv_iadd C.1 C.2.1 dX16_valueOf_95 ?_
          refine r_ald C hm dX16_valueOf_96 hh (fun x10 _ hh => ?_)
          refine lv_goto (tgt := 107) C.1 C.2.1 dX16_valueOf_97 (by decide) ?_
          exact r_iretP hQ C hr hm hs hh dX16_valueOf_107
  unfold mX16_valueOf at hh
  refine lv_bipush (v := 6) C.1 C.2.1 dX16_valueOf_0 (by decide) ?_
  refine lv_iload_n C.1 C.2.1 dX16_valueOf_2 rfl (lv_at hl 1 rfl) ?_
  refine lv_imul C.1 C.2.1 dX16_valueOf_3 ?_
  refine lv_iload_n C.1 C.2.1 dX16_valueOf_4 rfl (lv_at hl 2 rfl) ?_
  refine lv_iadd C.1 C.2.1 dX16_valueOf_5 ?_
  refine lv_istore (i := 5) (lv' := [(5, .int ((6 * a1) + a2)), (0, va_rf (some a0)), (1, .int a1), (2, .int a2), (3, .int a3), (4, .int a4)]) C.1 C.2.1 dX16_valueOf_6 hl (by decide) rfl (fun ls hl => ?_)
  refine r_aload_n C.1 C.2.1 dX16_valueOf_8 rfl (lv_at hl 1 rfl) ?_
  refine r_getR C hm flX16_46 dX16_valueOf_9 hh (fun x14 _ hh => ?_)
  refine lv_iload_n C.1 C.2.1 dX16_valueOf_12 rfl (lv_at hl 2 rfl) ?_
  refine r_ald C hm dX16_valueOf_13 hh (fun x15 _ hh => ?_)
  refine lv_iconst (v := (-1)) C.1 C.2.1 dX16_valueOf_14 (by decide) ?_
  refine lv_icmp_eq (tgt := 50) C.1 C.2.1 dX16_valueOf_15 (by decide) (fun c24 => ?_) (fun c24 => ?_)
  · rw [if_pos c24] at hh
    exact B50 _ _ _ _ _ _ _ _ _  hm hs (lv_sub hl [1, 2, 3, 4, 5, 0] rfl) hh
  · rw [if_neg c24] at hh
    refine lv_iload_n C.1 C.2.1 dX16_valueOf_18 rfl (lv_at hl 4 rfl) ?_
    refine r_aload_n C.1 C.2.1 dX16_valueOf_19 rfl (lv_at hl 1 rfl) ?_
    refine r_getR C hm flX16_46 dX16_valueOf_20 hh (fun x16 _ hh => ?_)
    refine lv_iload_n C.1 C.2.1 dX16_valueOf_23 rfl (lv_at hl 2 rfl) ?_
    refine r_ald C hm dX16_valueOf_24 hh (fun x17 _ hh => ?_)
    refine lv_icmp_lt (tgt := 50) C.1 C.2.1 dX16_valueOf_25 (by decide) (fun c23 => ?_) (fun c23 => ?_)
    · rw [if_pos c23] at hh
      exact B50 _ _ _ _ _ _ _ _ _  hm hs (lv_sub hl [1, 2, 3, 4, 5, 0] rfl) hh
    · rw [if_neg c23] at hh
      refine r_aload_n C.1 C.2.1 dX16_valueOf_28 rfl (lv_at hl 1 rfl) ?_
      refine r_getR C hm flX16_49 dX16_valueOf_29 hh (fun x18 _ hh => ?_)
      refine lv_iload_n C.1 C.2.1 dX16_valueOf_32 rfl (lv_at hl 2 rfl) ?_
      refine r_ald C hm dX16_valueOf_33 hh (fun x19 _ hh => ?_)
      refine lv_iload_n C.1 C.2.1 dX16_valueOf_34 rfl (lv_at hl 3 rfl) ?_
      refine lv_ishr C.1 C.2.1 dX16_valueOf_35 ?_
      refine lv_iconst (v := 1) C.1 C.2.1 dX16_valueOf_36 (by decide) ?_
      refine lv_iand C.1 C.2.1 dX16_valueOf_37 ?_
      refine lv_iconst (v := 1) C.1 C.2.1 dX16_valueOf_38 (by decide) ?_
      refine lv_icmp_ne (tgt := 50) C.1 C.2.1 dX16_valueOf_39 (by decide) (fun c22 => ?_) (fun c22 => ?_)
      · rw [if_neg c22] at hh
        exact B50 _ _ _ _ _ _ _ _ _  hm hs (lv_sub hl [1, 2, 3, 4, 5, 0] rfl) hh
      · rw [if_pos c22] at hh
        refine r_aload_n C.1 C.2.1 dX16_valueOf_42 rfl (lv_at hl 1 rfl) ?_
        refine r_getR C hm flX16_34 dX16_valueOf_43 hh (fun x20 _ hh => ?_)
        refine lv_iload C.1 C.2.1 dX16_valueOf_46 (lv_at hl 0 rfl) ?_
        refine r_ald C hm dX16_valueOf_48 hh (fun x21 _ hh => ?_)
        exact r_iretP hQ C hr hm hs hh dX16_valueOf_49
def mX16_loads_l3 : Nat → MHp → Nat → Int32 → Int32 → Int32 → Option Nat → Int32 → Option (MHp)
  | 0, _, _, _, _, _, _, _ => none
  | n + 1, h, a0, v1, v2, v3, v4, v5 => (gR 17 4 h (some a0)).bind fun x1 => (gI 13 0 h x1).bind fun x2 => (if x2 ≤ v5 then some h else (rcv 17 h (some a0)).bind fun b4 => (mX16_valueOf h b4 v1 v5 v2 v3).bind fun r3 => (pAI 20 h v4 v5 r3).bind fun h5 => mX16_loads_l3 n h5 a0 v1 v2 v3 v4 (v5 + 1))
def mX16_loads (h : MHp) (a0 : Nat) (a1 : Int32) (a2 : Int32) (a3 : Int32) (a4 : Option Nat) : Option (MHp) := mX16_loads_l3 FUEL h a0 a1 a2 a3 a4 0
set_option maxRecDepth 100000 in
set_option maxHeartbeats 4000000 in
theorem c_X16_loads (l : Launch) (G : Env0) (h : MHp) (a0 : Nat) (a1 : Int32) (a2 : Int32) (a3 : Int32) (a4 : Option Nat) (res : MHp) (hh : mX16_loads h a0 a1 a2 a3 a4 = some res) : MG l yX16_loads cX16_loads 6 none 1 25 0 0 G h [.ref a0, .int a1, .int a2, .int a3, va_rf a4] (none) (res) := by
  refine MG_of (own := RX16) (plainFor_of_name (by decide)) rfl (by simp [lg_sl, va_cat, vc_i, vc_l, vc_r]) ?_
  intro p e s m args below meth c Q ls hQ C X hin hm hs hl hr
  have hl : lv_has ls 6 [(0, .ref a0), (1, .int a1), (2, .int a2), (3, .int a3), (4, va_rf a4)] := by simpa [lv_args, va_cat, vc_i, vc_l, vc_r] using hl
  have hl : lv_has ls 6 [(0, va_rf (some a0)), (1, .int a1), (2, .int a2), (3, .int a3), (4, va_rf a4)] := hl
  have B3 : ∀ n : Nat, ∀ (h : MHp) (H : Heap) (locs : List Loc) (ls : Array Slot) (a0 : Nat) (v1 : Int32) (v2 : Int32) (v3 : Int32) (v4 : Option Nat) (v5 : Int32) , mHp (gD G) (gC G) (gB G) h H → va_S (fun q => gB G ≤ q) s.heap H locs → lv_has ls 6 [(0, va_rf (some a0)), (1, .int v1), (2, .int v2), (3, .int v3), (4, va_rf v4), (5, .int v5)] → mX16_loads_l3 n h a0 v1 v2 v3 v4 v5 = some res → W p l e ({ frames := 1, cells := 0, slots := 0, locals := 25 }) s m args below meth c H locs 0 0 Q (F0 m 3 ls []) := by
    intro n
    induction n with
    | zero => intro h H locs ls a0 v1 v2 v3 v4 v5 hm hs hl hh; cases hh
    | succ n ih =>
      intro h H locs ls a0 v1 v2 v3 v4 v5 hm hs hl hh
      unfold mX16_loads_l3 at hh
      refine lv_iload C.1 C.2.1 dX16_loads_3 (lv_at hl 5 rfl) ?_
      refine r_aload_n C.1 C.2.1 dX16_loads_5 rfl (lv_at hl 0 rfl) ?_
      refine r_getR C hm flX16_274 dX16_loads_6 hh (fun x1 _ hh => ?_)
      refine r_getI C hm flX16_218 dX16_loads_9 hh (fun x2 _ hh => ?_)
      refine lv_icmp_ge (tgt := 35) C.1 C.2.1 dX16_loads_12 (by decide) (fun c6 => ?_) (fun c6 => ?_)
      · rw [if_pos c6] at hh
        exact r_vretW hQ C hr hm hs hh dX16_loads_35
      · rw [if_neg c6] at hh
        refine r_aload C.1 C.2.1 dX16_loads_15 (lv_at hl 4 rfl) ?_
        refine lv_iload C.1 C.2.1 dX16_loads_17 (lv_at hl 5 rfl) ?_
        refine r_aload_n C.1 C.2.1 dX16_loads_19 rfl (lv_at hl 0 rfl) ?_
        refine lv_iload_n C.1 C.2.1 dX16_loads_20 rfl (lv_at hl 1 rfl) ?_
        refine lv_iload C.1 C.2.1 dX16_loads_21 (lv_at hl 5 rfl) ?_
        refine lv_iload_n C.1 C.2.1 dX16_loads_23 rfl (lv_at hl 2 rfl) ?_
        refine lv_iload_n C.1 C.2.1 dX16_loads_24 rfl (lv_at hl 3 rfl) ?_
        refine r_cV C X hm hs mlX16_345 mvX16_345 hh (vv := fun r => some (.int r)) (hp := fun r => h) (fun b r hg => c_X16_valueOf l G h b _ _ _ _ r hg) rfl rfl (by simp [va_cat, vc_i, vc_l, vc_r]) (Nat.le_of_ble_eq_true rfl) (Nat.le_of_ble_eq_true rfl) hl.1 dX16_loads_25 (fun b4 r3 H locs hgr3 hh hm hs => ?_)
        refine W.eq (g2 := F0 m 28 ls [.int r3, .int v5, va_rf v4]) rfl ?_
        refine r_ast C hm hs dX16_loads_28 hh (fun h5 H locs _ hh hm hs => ?_)
        refine lv_iinc (v := (v5 + 1)) (lv' := [(5, .int (v5 + 1)), (0, va_rf (some a0)), (1, .int v1), (2, .int v2), (3, .int v3), (4, va_rf v4)]) C.1 C.2.1 dX16_loads_29 hl (k := 5) rfl rfl (by decide) (by simp [va_cat, vc_i, vc_l, vc_r]) (fun ls hl => ?_)
        refine lv_goto (tgt := 3) C.1 C.2.1 dX16_loads_32 (by decide) ?_
        exact ih _ _ _ _ _ _ _ _ _ _  hm hs (lv_sub hl [1, 2, 3, 4, 5, 0] rfl) hh
  unfold mX16_loads at hh
  refine lv_iconst (v := 0) C.1 C.2.1 dX16_loads_0 (by decide) ?_
  refine lv_istore (i := 5) (lv' := [(5, .int 0), (0, va_rf (some a0)), (1, .int a1), (2, .int a2), (3, .int a3), (4, va_rf a4)]) C.1 C.2.1 dX16_loads_1 hl (by decide) (by simp [va_cat, vc_i, vc_l, vc_r]) (fun ls hl => ?_)
  exact B3 FUEL _ _ _ _ _ _ _ _ _ _  hm hs (lv_sub hl [1, 2, 3, 4, 5, 0] rfl) hh
def mX16_isThere (h : MHp) (a0 : Nat) (a1 : Int32) (a2 : Int32) : Option (Int32) := (gR 17 23 h (some a0)).bind fun x1 => (gAI 20 h x1 a1).bind fun x2 => (if a2 < x2 then some 0 else (gR 17 24 h (some a0)).bind fun x3 => (gAI 20 h x3 a1).bind fun x4 => (if x4 = (-1) then some 1 else (gR 17 24 h (some a0)).bind fun x5 => (gAI 20 h x5 a1).bind fun x6 => (if x6 ≤ a2 then some 0 else some 1)))
set_option maxRecDepth 100000 in
set_option maxHeartbeats 4000000 in
theorem c_X16_isThere (l : Launch) (G : Env0) (h : MHp) (a0 : Nat) (a1 : Int32) (a2 : Int32) (res : Int32) (hh : mX16_isThere h a0 a1 a2 = some res) : MG l yX16_isThere cX16_isThere 3 (some .boolean) 0 0 0 0 G h [.ref a0, .int a1, .int a2] (some (.int res)) (h) := by
  refine MG_of (own := RX16) (plainFor_of_name (by decide)) rfl (Nat.le_of_ble_eq_true rfl) ?_
  intro p e s m args below meth c Q ls hQ C X hin hm hs hl hr
  have hl : lv_has ls 3 [(0, va_rf (some a0)), (1, .int a1), (2, .int a2)] := hl
  unfold mX16_isThere at hh
  refine lv_iload_n C.1 C.2.1 dX16_isThere_0 rfl (lv_at hl 2 rfl) ?_
  refine r_aload_n C.1 C.2.1 dX16_isThere_1 rfl (lv_at hl 0 rfl) ?_
  refine r_getR C hm flX16_40 dX16_isThere_2 hh (fun x1 _ hh => ?_)
  refine lv_iload_n C.1 C.2.1 dX16_isThere_5 rfl (lv_at hl 1 rfl) ?_
  refine r_ald C hm dX16_isThere_6 hh (fun x2 _ hh => ?_)
  refine lv_icmp_lt (tgt := 34) C.1 C.2.1 dX16_isThere_7 (by decide) (fun c9 => ?_) (fun c9 => ?_)
  · rw [if_pos c9] at hh
    refine lv_iconst (v := 0) C.1 C.2.1 dX16_isThere_34 (by decide) ?_
    exact r_bretP hQ C hr hm hs (by decide) hh dX16_isThere_35
  · rw [if_neg c9] at hh
    refine r_aload_n C.1 C.2.1 dX16_isThere_10 rfl (lv_at hl 0 rfl) ?_
    refine r_getR C hm flX16_43 dX16_isThere_11 hh (fun x3 _ hh => ?_)
    refine lv_iload_n C.1 C.2.1 dX16_isThere_14 rfl (lv_at hl 1 rfl) ?_
    refine r_ald C hm dX16_isThere_15 hh (fun x4 _ hh => ?_)
    refine lv_iconst (v := (-1)) C.1 C.2.1 dX16_isThere_16 (by decide) ?_
    refine lv_icmp_eq (tgt := 30) C.1 C.2.1 dX16_isThere_17 (by decide) (fun c8 => ?_) (fun c8 => ?_)
    · rw [if_pos c8] at hh
      refine lv_iconst (v := 1) C.1 C.2.1 dX16_isThere_30 (by decide) ?_
      refine lv_goto (tgt := 35) C.1 C.2.1 dX16_isThere_31 (by decide) ?_
      exact r_bretP hQ C hr hm hs (by decide) hh dX16_isThere_35
    · rw [if_neg c8] at hh
      refine lv_iload_n C.1 C.2.1 dX16_isThere_20 rfl (lv_at hl 2 rfl) ?_
      refine r_aload_n C.1 C.2.1 dX16_isThere_21 rfl (lv_at hl 0 rfl) ?_
      refine r_getR C hm flX16_43 dX16_isThere_22 hh (fun x5 _ hh => ?_)
      refine lv_iload_n C.1 C.2.1 dX16_isThere_25 rfl (lv_at hl 1 rfl) ?_
      refine r_ald C hm dX16_isThere_26 hh (fun x6 _ hh => ?_)
      refine lv_icmp_ge (tgt := 34) C.1 C.2.1 dX16_isThere_27 (by decide) (fun c7 => ?_) (fun c7 => ?_)
      · rw [if_pos c7] at hh
        refine lv_iconst (v := 0) C.1 C.2.1 dX16_isThere_34 (by decide) ?_
        exact r_bretP hQ C hr hm hs (by decide) hh dX16_isThere_35
      · rw [if_neg c7] at hh
        refine lv_iconst (v := 1) C.1 C.2.1 dX16_isThere_30 (by decide) ?_
        refine lv_goto (tgt := 35) C.1 C.2.1 dX16_isThere_31 (by decide) ?_
        exact r_bretP hQ C hr hm hs (by decide) hh dX16_isThere_35
def mX16_value (h : MHp) (a0 : Nat) (a1 : Int32) (a2 : Int32) (a3 : Int32) (a4 : Int32) : Option (Int32 × MHp) := (pI 17 0 h (some a0) 0).bind fun h1 => (rcv 17 h1 (some a0)).bind fun b3 => (mX16_isRow h1 b3 a1).bind fun r2 => (if r2 = 0 then some ((-2), h1) else (rcv 17 h1 (some a0)).bind fun b5 => (mX16_isField h1 b5 a2).bind fun r4 => (if r4 = 0 then some ((-2), h1) else (gR 17 23 h1 (some a0)).bind fun x6 => (gAI 20 h1 x6 a1).bind fun x7 => (gI 17 19 h1 (some a0)).bind fun x8 => (mX16_in h1 a3 x7 x8).bind fun r9 => (if r9 = 0 then some ((-2), h1) else (mX16_in h1 a4 0 4).bind fun r10 => (if r10 = 0 then some ((-2), h1) else (rcv 17 h1 (some a0)).bind fun b12 => (mX16_valueOf h1 b12 a1 a2 a3 a4).bind fun r11 => some (r11, h1)))))
set_option maxRecDepth 100000 in
set_option maxHeartbeats 4000000 in
theorem c_X16_value (l : Launch) (G : Env0) (h : MHp) (a0 : Nat) (a1 : Int32) (a2 : Int32) (a3 : Int32) (a4 : Int32) (res : Int32 × MHp) (hh : mX16_value h a0 a1 a2 a3 a4 = some res) : MG l yX16_value cX16_value 5 (some .int) 1 25 0 0 G h [.ref a0, .int a1, .int a2, .int a3, .int a4] (some (.int res.1)) (res.2) := by
  refine MG_of (own := RX16) (plainFor_of_name (by decide)) rfl (Nat.le_of_ble_eq_true rfl) ?_
  intro p e s m args below meth c Q ls hQ C X hin hm hs hl hr
  have hl : lv_has ls 5 [(0, va_rf (some a0)), (1, .int a1), (2, .int a2), (3, .int a3), (4, .int a4)] := hl
  unfold mX16_value at hh
  refine r_aload_n C.1 C.2.1 dX16_value_0 rfl (lv_at hl 0 rfl) ?_
  refine lv_iconst (v := 0) C.1 C.2.1 dX16_value_1 (by decide) ?_
  refine r_putI C hm hs flX16_109 (Or.inl fm_17_0) dX16_value_2 hh (fun h1 H locs _ hh hm hs => ?_)
  refine r_aload_n C.1 C.2.1 dX16_value_5 rfl (lv_at hl 0 rfl) ?_
  refine lv_iload_n C.1 C.2.1 dX16_value_6 rfl (lv_at hl 1 rfl) ?_
  refine r_cV C X hm hs mlX16_336 mvX16_336 hh (vv := fun r => some (.int r)) (hp := fun r => h1) (fun b r hg => c_X16_isRow l G h1 b _ r hg) rfl rfl (Nat.le_of_ble_eq_true rfl) (Nat.le_of_ble_eq_true rfl) (Nat.le_of_ble_eq_true rfl) hl.1 dX16_value_7 (fun b3 r2 H locs hgr2 hh hm hs => ?_)
  refine W.eq (g2 := F0 m 10 ls [.int r2]) rfl ?_
  refine lv_if_eq (tgt := 60) C.1 C.2.1 dX16_value_10 (by decide) (fun c16 => ?_) (fun c16 => ?_)
  · rw [if_pos c16] at hh
    refine lv_bipush (v := (-2)) C.1 C.2.1 dX16_value_60 (by decide) ?_
    exact r_iretW hQ C hr hm hs hh dX16_value_62
  · rw [if_neg c16] at hh
    refine r_aload_n C.1 C.2.1 dX16_value_13 rfl (lv_at hl 0 rfl) ?_
    refine lv_iload_n C.1 C.2.1 dX16_value_14 rfl (lv_at hl 2 rfl) ?_
    refine r_cV C X hm hs mlX16_330 mvX16_330 hh (vv := fun r => some (.int r)) (hp := fun r => h1) (fun b r hg => c_X16_isField l G h1 b _ r hg) rfl rfl (Nat.le_of_ble_eq_true rfl) (Nat.le_of_ble_eq_true rfl) (Nat.le_of_ble_eq_true rfl) hl.1 dX16_value_15 (fun b5 r4 H locs hgr4 hh hm hs => ?_)
    refine W.eq (g2 := F0 m 18 ls [.int r4]) rfl ?_
    refine lv_if_eq (tgt := 60) C.1 C.2.1 dX16_value_18 (by decide) (fun c15 => ?_) (fun c15 => ?_)
    · rw [if_pos c15] at hh
      refine lv_bipush (v := (-2)) C.1 C.2.1 dX16_value_60 (by decide) ?_
      exact r_iretW hQ C hr hm hs hh dX16_value_62
    · rw [if_neg c15] at hh
      refine lv_iload_n C.1 C.2.1 dX16_value_21 rfl (lv_at hl 3 rfl) ?_
      refine r_aload_n C.1 C.2.1 dX16_value_22 rfl (lv_at hl 0 rfl) ?_
      refine r_getR C hm flX16_40 dX16_value_23 hh (fun x6 _ hh => ?_)
      refine lv_iload_n C.1 C.2.1 dX16_value_26 rfl (lv_at hl 1 rfl) ?_
      refine r_ald C hm dX16_value_27 hh (fun x7 _ hh => ?_)
      refine r_aload_n C.1 C.2.1 dX16_value_28 rfl (lv_at hl 0 rfl) ?_
      refine r_getI C hm flX16_314 dX16_value_29 hh (fun x8 _ hh => ?_)
      refine r_cS C X hm hs mlX16_231 msX16_231 hh (vv := fun r => some (.int r)) (hp := fun r => h1) (fun r hg => c_X16_in l G h1 _ _ _ r hg) rfl rfl (Nat.le_of_ble_eq_true rfl) (Nat.le_of_ble_eq_true rfl) (Nat.le_of_ble_eq_true rfl) hl.1 dX16_value_32 (fun r9 H locs hgr9 hh hm hs => ?_)
      refine W.eq (g2 := F0 m 35 ls [.int r9]) rfl ?_
      refine lv_if_eq (tgt := 60) C.1 C.2.1 dX16_value_35 (by decide) (fun c14 => ?_) (fun c14 => ?_)
      · rw [if_pos c14] at hh
        refine lv_bipush (v := (-2)) C.1 C.2.1 dX16_value_60 (by decide) ?_
        exact r_iretW hQ C hr hm hs hh dX16_value_62
      · rw [if_neg c14] at hh
        refine lv_iload C.1 C.2.1 dX16_value_38 (lv_at hl 4 rfl) ?_
        refine lv_iconst (v := 0) C.1 C.2.1 dX16_value_40 (by decide) ?_
        refine lv_iconst (v := 4) C.1 C.2.1 dX16_value_41 (by decide) ?_
        refine r_cS C X hm hs mlX16_231 msX16_231 hh (vv := fun r => some (.int r)) (hp := fun r => h1) (fun r hg => c_X16_in l G h1 _ _ _ r hg) rfl rfl (Nat.le_of_ble_eq_true rfl) (Nat.le_of_ble_eq_true rfl) (Nat.le_of_ble_eq_true rfl) hl.1 dX16_value_42 (fun r10 H locs hgr10 hh hm hs => ?_)
        refine W.eq (g2 := F0 m 45 ls [.int r10]) rfl ?_
        refine lv_if_eq (tgt := 60) C.1 C.2.1 dX16_value_45 (by decide) (fun c13 => ?_) (fun c13 => ?_)
        · rw [if_pos c13] at hh
          refine lv_bipush (v := (-2)) C.1 C.2.1 dX16_value_60 (by decide) ?_
          exact r_iretW hQ C hr hm hs hh dX16_value_62
        · rw [if_neg c13] at hh
          refine r_aload_n C.1 C.2.1 dX16_value_48 rfl (lv_at hl 0 rfl) ?_
          refine lv_iload_n C.1 C.2.1 dX16_value_49 rfl (lv_at hl 1 rfl) ?_
          refine lv_iload_n C.1 C.2.1 dX16_value_50 rfl (lv_at hl 2 rfl) ?_
          refine lv_iload_n C.1 C.2.1 dX16_value_51 rfl (lv_at hl 3 rfl) ?_
          refine lv_iload C.1 C.2.1 dX16_value_52 (lv_at hl 4 rfl) ?_
          refine r_cV C X hm hs mlX16_345 mvX16_345 hh (vv := fun r => some (.int r)) (hp := fun r => h1) (fun b r hg => c_X16_valueOf l G h1 b _ _ _ _ r hg) rfl rfl (Nat.le_of_ble_eq_true rfl) (Nat.le_of_ble_eq_true rfl) (Nat.le_of_ble_eq_true rfl) hl.1 dX16_value_54 (fun b12 r11 H locs hgr11 hh hm hs => ?_)
          refine W.eq (g2 := F0 m 57 ls [.int r11]) rfl ?_
          refine lv_goto (tgt := 62) C.1 C.2.1 dX16_value_57 (by decide) ?_
          exact r_iretW hQ C hr hm hs hh dX16_value_62
def mX16_gapsOf_b28 (k4 : Nat → Option Nat → Int32 → Int32 → Option (Int32)) (h : MHp) (a0 : Nat) (v1 : Option Nat) (v3 : Int32) (t0 : Int32) (t1 : Int32) : Option (Int32) := k4 a0 v1 (t0 + t1) (v3 + 1)
def mX16_gapsOf_l4 (h : MHp) : Nat → Nat → Option Nat → Int32 → Int32 → Option (Int32)
  | 0, _, _, _, _ => none
  | n + 1, a0, v1, v2, v3 => (gR 17 4 h (some a0)).bind fun x1 => (gI 13 0 h x1).bind fun x2 => (if x2 ≤ v3 then some v2 else (gAI 20 h v1 v3).bind fun x3 => (if x3 = (-1) then mX16_gapsOf_b28 (mX16_gapsOf_l4 h n) h a0 v1 v3 v2 1 else mX16_gapsOf_b28 (mX16_gapsOf_l4 h n) h a0 v1 v3 v2 0))
def mX16_gapsOf (h : MHp) (a0 : Nat) (a1 : Option Nat) : Option (Int32) := mX16_gapsOf_l4 h FUEL a0 a1 0 0
set_option maxRecDepth 100000 in
set_option maxHeartbeats 4000000 in
theorem c_X16_gapsOf (l : Launch) (G : Env0) (h : MHp) (a0 : Nat) (a1 : Option Nat) (res : Int32) (hh : mX16_gapsOf h a0 a1 = some res) : MG l yX16_gapsOf cX16_gapsOf 4 (some .int) 0 0 0 0 G h [.ref a0, va_rf a1] (some (.int res)) (h) := by
  refine MG_of (own := RX16) (plainFor_of_name (by decide)) rfl (by simp [lg_sl, va_cat, vc_i, vc_l, vc_r]) ?_
  intro p e s m args below meth c Q ls hQ C X hin hm hs hl hr
  have hl : lv_has ls 4 [(0, .ref a0), (1, va_rf a1)] := by simpa [lv_args, va_cat, vc_i, vc_l, vc_r] using hl
  have hl : lv_has ls 4 [(0, va_rf (some a0)), (1, va_rf a1)] := hl
  have B28 : ∀ (k4 : Nat → Option Nat → Int32 → Int32 → Option (Int32)), (∀ (H : Heap) (locs : List Loc) (ls : Array Slot) (a0 : Nat) (v1 : Option Nat) (v2 : Int32) (v3 : Int32) , mHp (gD G) (gC G) (gB G) h H → va_S (fun q => gB G ≤ q) s.heap H locs → lv_has ls 4 [(0, va_rf (some a0)), (1, va_rf v1), (2, .int v2), (3, .int v3)] → k4 a0 v1 v2 v3 = some res → W p l e ({ frames := 0, cells := 0, slots := 0, locals := 0 }) s m args below meth c H locs 0 0 Q (F0 m 4 ls [])) → ∀ (H : Heap) (locs : List Loc) (ls : Array Slot) (a0 : Nat) (v1 : Option Nat) (v3 : Int32) (t0 : Int32) (t1 : Int32) , mHp (gD G) (gC G) (gB G) h H → va_S (fun q => gB G ≤ q) s.heap H locs → lv_has ls 4 [(0, va_rf (some a0)), (1, va_rf v1), (3, .int v3)] → mX16_gapsOf_b28 k4 h a0 v1 v3 t0 t1 = some res → W p l e ({ frames := 0, cells := 0, slots := 0, locals := 0 }) s m args below meth c H locs 0 0 Q (F0 m 28 ls [.int t1, .int t0]) := by
    intro k4 hk4 H locs ls a0 v1 v3 t0 t1 hm hs hl hh
    unfold mX16_gapsOf_b28 at hh
    refine lv_iadd C.1 C.2.1 dX16_gapsOf_28 ?_
    refine lv_istore_n (i := 2) (lv' := [(2, .int (t0 + t1)), (0, va_rf (some a0)), (1, va_rf v1), (3, .int v3)]) C.1 C.2.1 dX16_gapsOf_29 rfl hl (by decide) (by simp [va_cat, vc_i, vc_l, vc_r]) (fun ls hl => ?_)
    refine lv_iinc (v := (v3 + 1)) (lv' := [(3, .int (v3 + 1)), (2, .int (t0 + t1)), (0, va_rf (some a0)), (1, va_rf v1)]) C.1 C.2.1 dX16_gapsOf_30 hl (k := 3) rfl rfl (by decide) rfl (fun ls hl => ?_)
    refine lv_goto (tgt := 4) C.1 C.2.1 dX16_gapsOf_33 (by decide) ?_
    exact hk4 _ _ _ _ _ _ _  hm hs (lv_sub hl [2, 3, 1, 0] rfl) hh
  have B4 : ∀ n : Nat, ∀ (H : Heap) (locs : List Loc) (ls : Array Slot) (a0 : Nat) (v1 : Option Nat) (v2 : Int32) (v3 : Int32) , mHp (gD G) (gC G) (gB G) h H → va_S (fun q => gB G ≤ q) s.heap H locs → lv_has ls 4 [(0, va_rf (some a0)), (1, va_rf v1), (2, .int v2), (3, .int v3)] → mX16_gapsOf_l4 h n a0 v1 v2 v3 = some res → W p l e ({ frames := 0, cells := 0, slots := 0, locals := 0 }) s m args below meth c H locs 0 0 Q (F0 m 4 ls []) := by
    intro n
    induction n with
    | zero => intro H locs ls a0 v1 v2 v3 hm hs hl hh; cases hh
    | succ n ih =>
      intro H locs ls a0 v1 v2 v3 hm hs hl hh
      unfold mX16_gapsOf_l4 at hh
      refine lv_iload_n C.1 C.2.1 dX16_gapsOf_4 rfl (lv_at hl 3 rfl) ?_
      refine r_aload_n C.1 C.2.1 dX16_gapsOf_5 rfl (lv_at hl 0 rfl) ?_
      refine r_getR C hm flX16_274 dX16_gapsOf_6 hh (fun x1 _ hh => ?_)
      refine r_getI C hm flX16_218 dX16_gapsOf_9 hh (fun x2 _ hh => ?_)
      refine lv_icmp_ge (tgt := 36) C.1 C.2.1 dX16_gapsOf_12 (by decide) (fun c5 => ?_) (fun c5 => ?_)
      · rw [if_pos c5] at hh
        refine lv_iload_n C.1 C.2.1 dX16_gapsOf_36 rfl (lv_at hl 2 rfl) ?_
        exact r_iretP hQ C hr hm hs hh dX16_gapsOf_37
      · rw [if_neg c5] at hh
        refine lv_iload_n C.1 C.2.1 dX16_gapsOf_15 rfl (lv_at hl 2 rfl) ?_
        refine r_aload_n C.1 C.2.1 dX16_gapsOf_16 rfl (lv_at hl 1 rfl) ?_
        refine lv_iload_n C.1 C.2.1 dX16_gapsOf_17 rfl (lv_at hl 3 rfl) ?_
        refine r_ald C hm dX16_gapsOf_18 hh (fun x3 _ hh => ?_)
        refine lv_iconst (v := (-1)) C.1 C.2.1 dX16_gapsOf_19 (by decide) ?_
        refine lv_icmp_ne (tgt := 27) C.1 C.2.1 dX16_gapsOf_20 (by decide) (fun c4 => ?_) (fun c4 => ?_)
        · rw [if_neg c4] at hh
          refine lv_iconst (v := 0) C.1 C.2.1 dX16_gapsOf_27 (by decide) ?_
          exact B28 _ ih _ _ _ _ _ _ _ _  hm hs (lv_sub hl [0, 1, 3] rfl) hh
        · rw [if_pos c4] at hh
          refine lv_iconst (v := 1) C.1 C.2.1 dX16_gapsOf_23 (by decide) ?_
          refine lv_goto (tgt := 28) C.1 C.2.1 dX16_gapsOf_24 (by decide) ?_
          exact B28 _ ih _ _ _ _ _ _ _ _  hm hs (lv_sub hl [0, 1, 3] rfl) hh
  unfold mX16_gapsOf at hh
  refine lv_iconst (v := 0) C.1 C.2.1 dX16_gapsOf_0 (by decide) ?_
  refine lv_istore_n (i := 2) (lv' := [(2, .int 0), (0, va_rf (some a0)), (1, va_rf a1)]) C.1 C.2.1 dX16_gapsOf_1 rfl hl (by decide) (by simp [va_cat, vc_i, vc_l, vc_r]) (fun ls hl => ?_)
  refine lv_iconst (v := 0) C.1 C.2.1 dX16_gapsOf_2 (by decide) ?_
  refine lv_istore_n (i := 3) (lv' := [(3, .int 0), (2, .int 0), (0, va_rf (some a0)), (1, va_rf a1)]) C.1 C.2.1 dX16_gapsOf_3 rfl hl (by decide) rfl (fun ls hl => ?_)
  exact B4 FUEL _ _ _ _ _ _ _  hm hs (lv_sub hl [2, 3, 1, 0] rfl) hh
def mX16_orTwo (h : MHp) (a0 : Int32) : Option (Int32) := (if a0 = (-1) then some (-2) else some a0)
set_option maxRecDepth 100000 in
set_option maxHeartbeats 4000000 in
theorem c_X16_orTwo (l : Launch) (G : Env0) (h : MHp) (a0 : Int32) (res : Int32) (hh : mX16_orTwo h a0 = some res) : MG l yX16_orTwo cX16_orTwo 1 (some .int) 0 0 0 0 G h [.int a0] (some (.int res)) (h) := by
  refine MG_of (own := RX16) (plainFor_of_name (by decide)) rfl (Nat.le_of_ble_eq_true rfl) ?_
  intro p e s m args below meth c Q ls hQ C X hin hm hs hl hr
  have hl : lv_has ls 1 [(0, .int a0)] := hl
  unfold mX16_orTwo at hh
  refine lv_iload_n C.1 C.2.1 dX16_orTwo_0 rfl (lv_at hl 0 rfl) ?_
  refine lv_iconst (v := (-1)) C.1 C.2.1 dX16_orTwo_1 (by decide) ?_
  refine lv_icmp_ne (tgt := 10) C.1 C.2.1 dX16_orTwo_2 (by decide) (fun c1 => ?_) (fun c1 => ?_)
  · rw [if_neg c1] at hh
    refine lv_iload_n C.1 C.2.1 dX16_orTwo_10 rfl (lv_at hl 0 rfl) ?_
    exact r_iretP hQ C hr hm hs hh dX16_orTwo_11
  · rw [if_pos c1] at hh
    refine lv_bipush (v := (-2)) C.1 C.2.1 dX16_orTwo_5 (by decide) ?_
    refine lv_goto (tgt := 11) C.1 C.2.1 dX16_orTwo_7 (by decide) ?_
    exact r_iretP hQ C hr hm hs hh dX16_orTwo_11
def mX16_of (h : MHp) (a0 : Nat) (a1 : Int32) (a2 : Int32) : Option (Int32 × MHp) := (pI 17 0 h (some a0) 0).bind fun h1 => (rcv 17 h1 (some a0)).bind fun b3 => (mX16_isRow h1 b3 a1).bind fun r2 => (if r2 = 0 then some ((-1), h1) else (gI 17 19 h1 (some a0)).bind fun x4 => (gR 17 29 h1 (some a0)).bind fun x5 => (rcv 17 h1 (some a0)).bind fun b7 => (mX16_loads h1 b7 a1 x4 0 x5).bind fun r6 => (if a2 = 0 then (gI 17 19 r6 (some a0)).bind fun x9 => (rcv 17 r6 (some a0)).bind fun b11 => (mX16_isThere r6 b11 a1 x9).bind fun r10 => (if r10 = 0 then some (0, r6) else some (1, r6)) else (if a2 = 1 then (gR 17 4 r6 (some a0)).bind fun x13 => (gR 17 29 r6 (some a0)).bind fun x14 => (rcv 13 r6 x13).bind fun b16 => (mX12_broken r6 b16 x14).bind fun r15 => (if r15 = (-1) then some (0, r6) else some (1, r6)) else (if a2 = 2 then (gR 17 29 r6 (some a0)).bind fun x18 => (rcv 17 r6 (some a0)).bind fun b20 => (mX16_gapsOf r6 b20 x18).bind fun r19 => some (r19, r6) else (if a2 = 3 then (gR 17 25 r6 (some a0)).bind fun x21 => (gAI 20 r6 x21 a1).bind fun x22 => (mX16_orTwo r6 x22).bind fun r23 => some (r23, r6) else (if a2 = 4 then (gR 17 27 r6 (some a0)).bind fun x24 => (gAI 20 r6 x24 a1).bind fun x25 => (mX16_orTwo r6 x25).bind fun r26 => some (r26, r6) else (if a2 = 5 then (gR 17 28 r6 (some a0)).bind fun x27 => (gAI 20 r6 x27 a1).bind fun x28 => some (x28, r6) else (if a2 = 6 then (gR 17 4 r6 (some a0)).bind fun x29 => (gR 17 29 r6 (some a0)).bind fun x30 => (rcv 13 r6 x29).bind fun b32 => (mX12_broken r6 b32 x30).bind fun r31 => (mX16_orTwo r6 r31).bind fun r33 => some (r33, r6) else some ((-1), r6)))))))))
set_option maxRecDepth 100000 in
set_option maxHeartbeats 4000000 in
theorem c_X16_of (l : Launch) (G : Env0) (h : MHp) (a0 : Nat) (a1 : Int32) (a2 : Int32) (res : Int32 × MHp) (hh : mX16_of h a0 a1 a2 = some res) : MG l yX16_of cX16_of 3 (some .int) 2 50 0 0 G h [.ref a0, .int a1, .int a2] (some (.int res.1)) (res.2) := by
  refine MG_of (own := RX16) (plainFor_of_name (by decide)) rfl (Nat.le_of_ble_eq_true rfl) ?_
  intro p e s m args below meth c Q ls hQ C X hin hm hs hl hr
  have hl : lv_has ls 3 [(0, va_rf (some a0)), (1, .int a1), (2, .int a2)] := hl
  unfold mX16_of at hh
  refine r_aload_n C.1 C.2.1 dX16_of_0 rfl (lv_at hl 0 rfl) ?_
  refine lv_iconst (v := 0) C.1 C.2.1 dX16_of_1 (by decide) ?_
  refine r_putI C hm hs flX16_109 (Or.inl fm_17_0) dX16_of_2 hh (fun h1 H locs _ hh hm hs => ?_)
  refine r_aload_n C.1 C.2.1 dX16_of_5 rfl (lv_at hl 0 rfl) ?_
  refine lv_iload_n C.1 C.2.1 dX16_of_6 rfl (lv_at hl 1 rfl) ?_
  refine r_cV C X hm hs mlX16_336 mvX16_336 hh (vv := fun r => some (.int r)) (hp := fun r => h1) (fun b r hg => c_X16_isRow l G h1 b _ r hg) rfl rfl (Nat.le_of_ble_eq_true rfl) (Nat.le_of_ble_eq_true rfl) (Nat.le_of_ble_eq_true rfl) hl.1 dX16_of_7 (fun b3 r2 H locs hgr2 hh hm hs => ?_)
  refine W.eq (g2 := F0 m 10 ls [.int r2]) rfl ?_
  refine lv_if_ne (tgt := 15) C.1 C.2.1 dX16_of_10 (by decide) (fun c34 => ?_) (fun c34 => ?_)
  · rw [if_neg c34] at hh
    refine r_aload_n C.1 C.2.1 dX16_of_15 rfl (lv_at hl 0 rfl) ?_
    refine lv_iload_n C.1 C.2.1 dX16_of_16 rfl (lv_at hl 1 rfl) ?_
    refine r_aload_n C.1 C.2.1 dX16_of_17 rfl (lv_at hl 0 rfl) ?_
    refine r_getI C hm flX16_314 dX16_of_18 hh (fun x4 _ hh => ?_)
    refine lv_iconst (v := 0) C.1 C.2.1 dX16_of_21 (by decide) ?_
    refine r_aload_n C.1 C.2.1 dX16_of_22 rfl (lv_at hl 0 rfl) ?_
    refine r_getR C hm flX16_58 dX16_of_23 hh (fun x5 _ hh => ?_)
    refine r_cV C X hm hs mlX16_349 mvX16_349 hh (vv := fun r => none) (hp := fun r => r) (fun b r hg => c_X16_loads l G h1 b _ _ _ _ r hg) rfl rfl (Nat.le_of_ble_eq_true rfl) (Nat.le_of_ble_eq_true rfl) (Nat.le_of_ble_eq_true rfl) hl.1 dX16_of_26 (fun b7 r6 H locs hgr6 hh hm hs => ?_)
    refine W.eq (g2 := F0 m 29 ls []) rfl ?_
    refine lv_iload_n C.1 C.2.1 dX16_of_29 rfl (lv_at hl 2 rfl) ?_
    by_cases c8_0 : a2 = 0
    · rw [if_pos c8_0] at hh
      refine r_tsw (tgt := 72) C dX16_of_30 c8_0 (by decide) (by decide) rfl (by decide) ?_
      refine r_aload_n C.1 C.2.1 dX16_of_72 rfl (lv_at hl 0 rfl) ?_
      refine lv_iload_n C.1 C.2.1 dX16_of_73 rfl (lv_at hl 1 rfl) ?_
      refine r_aload_n C.1 C.2.1 dX16_of_74 rfl (lv_at hl 0 rfl) ?_
      refine r_getI C hm flX16_314 dX16_of_75 hh (fun x9 _ hh => ?_)
      refine r_cV C X hm hs mlX16_353 mvX16_353 hh (vv := fun r => some (.int r)) (hp := fun r => r6) (fun b r hg => c_X16_isThere l G r6 b _ _ r hg) rfl rfl (Nat.le_of_ble_eq_true rfl) (Nat.le_of_ble_eq_true rfl) (Nat.le_of_ble_eq_true rfl) hl.1 dX16_of_78 (fun b11 r10 H locs hgr10 hh hm hs => ?_)
      refine W.eq (g2 := F0 m 81 ls [.int r10]) rfl ?_
      refine lv_if_eq (tgt := 88) C.1 C.2.1 dX16_of_81 (by decide) (fun c12 => ?_) (fun c12 => ?_)
      · rw [if_pos c12] at hh
        refine lv_iconst (v := 0) C.1 C.2.1 dX16_of_88 (by decide) ?_
        exact r_iretW hQ C hr hm hs hh dX16_of_89
      · rw [if_neg c12] at hh
        refine lv_iconst (v := 1) C.1 C.2.1 dX16_of_84 (by decide) ?_
        refine lv_goto (tgt := 89) C.1 C.2.1 dX16_of_85 (by decide) ?_
        exact r_iretW hQ C hr hm hs hh dX16_of_89
    · rw [if_neg c8_0] at hh
      by_cases c8_1 : a2 = 1
      · rw [if_pos c8_1] at hh
        refine r_tsw (tgt := 90) C dX16_of_30 c8_1 (by decide) (by decide) rfl (by decide) ?_
        refine r_aload_n C.1 C.2.1 dX16_of_90 rfl (lv_at hl 0 rfl) ?_
        refine r_getR C hm flX16_274 dX16_of_91 hh (fun x13 _ hh => ?_)
        refine r_aload_n C.1 C.2.1 dX16_of_94 rfl (lv_at hl 0 rfl) ?_
        refine r_getR C hm flX16_58 dX16_of_95 hh (fun x14 _ hh => ?_)
        refine r_cV C X hm hs mlX16_356 mvX16_356 hh (vv := fun r => some (.int r)) (hp := fun r => r6) (fun b r hg => c_X12_broken l G r6 b _ r hg) rfl rfl (Nat.le_of_ble_eq_true rfl) (Nat.le_of_ble_eq_true rfl) (Nat.le_of_ble_eq_true rfl) hl.1 dX16_of_98 (fun b16 r15 H locs hgr15 hh hm hs => ?_)
        refine W.eq (g2 := F0 m 101 ls [.int r15]) rfl ?_
        refine lv_iconst (v := (-1)) C.1 C.2.1 dX16_of_101 (by decide) ?_
        refine lv_icmp_eq (tgt := 109) C.1 C.2.1 dX16_of_102 (by decide) (fun c17 => ?_) (fun c17 => ?_)
        · rw [if_pos c17] at hh
          refine lv_iconst (v := 0) C.1 C.2.1 dX16_of_109 (by decide) ?_
          exact r_iretW hQ C hr hm hs hh dX16_of_110
        · rw [if_neg c17] at hh
          refine lv_iconst (v := 1) C.1 C.2.1 dX16_of_105 (by decide) ?_
          refine lv_goto (tgt := 110) C.1 C.2.1 dX16_of_106 (by decide) ?_
          exact r_iretW hQ C hr hm hs hh dX16_of_110
      · rw [if_neg c8_1] at hh
        by_cases c8_2 : a2 = 2
        · rw [if_pos c8_2] at hh
          refine r_tsw (tgt := 111) C dX16_of_30 c8_2 (by decide) (by decide) rfl (by decide) ?_
          refine r_aload_n C.1 C.2.1 dX16_of_111 rfl (lv_at hl 0 rfl) ?_
          refine r_aload_n C.1 C.2.1 dX16_of_112 rfl (lv_at hl 0 rfl) ?_
          refine r_getR C hm flX16_58 dX16_of_113 hh (fun x18 _ hh => ?_)
          refine r_cV C X hm hs mlX16_360 mvX16_360 hh (vv := fun r => some (.int r)) (hp := fun r => r6) (fun b r hg => c_X16_gapsOf l G r6 b _ r hg) rfl rfl (Nat.le_of_ble_eq_true rfl) (Nat.le_of_ble_eq_true rfl) (Nat.le_of_ble_eq_true rfl) hl.1 dX16_of_116 (fun b20 r19 H locs hgr19 hh hm hs => ?_)
          refine W.eq (g2 := F0 m 119 ls [.int r19]) rfl ?_
          exact r_iretW hQ C hr hm hs hh dX16_of_119
        · rw [if_neg c8_2] at hh
          by_cases c8_3 : a2 = 3
          · rw [if_pos c8_3] at hh
            refine r_tsw (tgt := 120) C dX16_of_30 c8_3 (by decide) (by decide) rfl (by decide) ?_
            refine r_aload_n C.1 C.2.1 dX16_of_120 rfl (lv_at hl 0 rfl) ?_
            refine r_getR C hm flX16_46 dX16_of_121 hh (fun x21 _ hh => ?_)
            refine lv_iload_n C.1 C.2.1 dX16_of_124 rfl (lv_at hl 1 rfl) ?_
            refine r_ald C hm dX16_of_125 hh (fun x22 _ hh => ?_)
            refine r_cS C X hm hs mlX16_363 msX16_363 hh (vv := fun r => some (.int r)) (hp := fun r => r6) (fun r hg => c_X16_orTwo l G r6 _ r hg) rfl rfl (Nat.le_of_ble_eq_true rfl) (Nat.le_of_ble_eq_true rfl) (Nat.le_of_ble_eq_true rfl) hl.1 dX16_of_126 (fun r23 H locs hgr23 hh hm hs => ?_)
            refine W.eq (g2 := F0 m 129 ls [.int r23]) rfl ?_
            exact r_iretW hQ C hr hm hs hh dX16_of_129
          · rw [if_neg c8_3] at hh
            by_cases c8_4 : a2 = 4
            · rw [if_pos c8_4] at hh
              refine r_tsw (tgt := 130) C dX16_of_30 c8_4 (by decide) (by decide) rfl (by decide) ?_
              refine r_aload_n C.1 C.2.1 dX16_of_130 rfl (lv_at hl 0 rfl) ?_
              refine r_getR C hm flX16_52 dX16_of_131 hh (fun x24 _ hh => ?_)
              refine lv_iload_n C.1 C.2.1 dX16_of_134 rfl (lv_at hl 1 rfl) ?_
              refine r_ald C hm dX16_of_135 hh (fun x25 _ hh => ?_)
              refine r_cS C X hm hs mlX16_363 msX16_363 hh (vv := fun r => some (.int r)) (hp := fun r => r6) (fun r hg => c_X16_orTwo l G r6 _ r hg) rfl rfl (Nat.le_of_ble_eq_true rfl) (Nat.le_of_ble_eq_true rfl) (Nat.le_of_ble_eq_true rfl) hl.1 dX16_of_136 (fun r26 H locs hgr26 hh hm hs => ?_)
              refine W.eq (g2 := F0 m 139 ls [.int r26]) rfl ?_
              exact r_iretW hQ C hr hm hs hh dX16_of_139
            · rw [if_neg c8_4] at hh
              by_cases c8_5 : a2 = 5
              · rw [if_pos c8_5] at hh
                refine r_tsw (tgt := 140) C dX16_of_30 c8_5 (by decide) (by decide) rfl (by decide) ?_
                refine r_aload_n C.1 C.2.1 dX16_of_140 rfl (lv_at hl 0 rfl) ?_
                refine r_getR C hm flX16_55 dX16_of_141 hh (fun x27 _ hh => ?_)
                refine lv_iload_n C.1 C.2.1 dX16_of_144 rfl (lv_at hl 1 rfl) ?_
                refine r_ald C hm dX16_of_145 hh (fun x28 _ hh => ?_)
                exact r_iretW hQ C hr hm hs hh dX16_of_146
              · rw [if_neg c8_5] at hh
                by_cases c8_6 : a2 = 6
                · rw [if_pos c8_6] at hh
                  refine r_tsw (tgt := 147) C dX16_of_30 c8_6 (by decide) (by decide) rfl (by decide) ?_
                  refine r_aload_n C.1 C.2.1 dX16_of_147 rfl (lv_at hl 0 rfl) ?_
                  refine r_getR C hm flX16_274 dX16_of_148 hh (fun x29 _ hh => ?_)
                  refine r_aload_n C.1 C.2.1 dX16_of_151 rfl (lv_at hl 0 rfl) ?_
                  refine r_getR C hm flX16_58 dX16_of_152 hh (fun x30 _ hh => ?_)
                  refine r_cV C X hm hs mlX16_356 mvX16_356 hh (vv := fun r => some (.int r)) (hp := fun r => r6) (fun b r hg => c_X12_broken l G r6 b _ r hg) rfl rfl (Nat.le_of_ble_eq_true rfl) (Nat.le_of_ble_eq_true rfl) (Nat.le_of_ble_eq_true rfl) hl.1 dX16_of_155 (fun b32 r31 H locs hgr31 hh hm hs => ?_)
                  refine W.eq (g2 := F0 m 158 ls [.int r31]) rfl ?_
                  refine r_cS C X hm hs mlX16_363 msX16_363 hh (vv := fun r => some (.int r)) (hp := fun r => r6) (fun r hg => c_X16_orTwo l G r6 _ r hg) rfl rfl (Nat.le_of_ble_eq_true rfl) (Nat.le_of_ble_eq_true rfl) (Nat.le_of_ble_eq_true rfl) hl.1 dX16_of_158 (fun r33 H locs hgr33 hh hm hs => ?_)
                  refine W.eq (g2 := F0 m 161 ls [.int r33]) rfl ?_
                  exact r_iretW hQ C hr hm hs hh dX16_of_161
                · rw [if_neg c8_6] at hh
                  refine lv_tableOut (tgt := 162) C.1 C.2.1 dX16_of_30 (tsw_out7 c8_0 c8_1 c8_2 c8_3 c8_4 c8_5 c8_6) (by decide) ?_
                  refine lv_iconst (v := (-1)) C.1 C.2.1 dX16_of_162 (by decide) ?_
                  exact r_iretW hQ C hr hm hs hh dX16_of_163
  · rw [if_pos c34] at hh
    refine lv_iconst (v := (-1)) C.1 C.2.1 dX16_of_13 (by decide) ?_
    exact r_iretW hQ C hr hm hs hh dX16_of_14
def mX16_bits_l4 (h : MHp) : Nat → Int32 → Int32 → Option (Int32)
  | 0, _, _ => none
  | n + 1, v1, v2 => (if v2 = 0 then some v1 else mX16_bits_l4 h n (v1 + 1) (v2 &&& (v2 - 1)))
def mX16_bits (h : MHp) (a0 : Int32) : Option (Int32) := mX16_bits_l4 h FUEL 0 a0
set_option maxRecDepth 100000 in
set_option maxHeartbeats 4000000 in
theorem c_X16_bits (l : Launch) (G : Env0) (h : MHp) (a0 : Int32) (res : Int32) (hh : mX16_bits h a0 = some res) : MG l yX16_bits cX16_bits 3 (some .int) 0 0 0 0 G h [.int a0] (some (.int res)) (h) := by
  refine MG_of (own := RX16) (plainFor_of_name (by decide)) rfl (Nat.le_of_ble_eq_true rfl) ?_
  intro p e s m args below meth c Q ls hQ C X hin hm hs hl hr
  have hl : lv_has ls 3 [(0, .int a0)] := hl
  have B4 : ∀ n : Nat, ∀ (H : Heap) (locs : List Loc) (ls : Array Slot) (v1 : Int32) (v2 : Int32) , mHp (gD G) (gC G) (gB G) h H → va_S (fun q => gB G ≤ q) s.heap H locs → lv_has ls 3 [(1, .int v1), (2, .int v2)] → mX16_bits_l4 h n v1 v2 = some res → W p l e ({ frames := 0, cells := 0, slots := 0, locals := 0 }) s m args below meth c H locs 0 0 Q (F0 m 4 ls []) := by
    intro n
    induction n with
    | zero => intro H locs ls v1 v2 hm hs hl hh; cases hh
    | succ n ih =>
      intro H locs ls v1 v2 hm hs hl hh
      unfold mX16_bits_l4 at hh
      refine lv_iload_n C.1 C.2.1 dX16_bits_4 rfl (lv_at hl 1 rfl) ?_
      refine lv_if_eq (tgt := 20) C.1 C.2.1 dX16_bits_5 (by decide) (fun c1 => ?_) (fun c1 => ?_)
      · rw [if_pos c1] at hh
        refine lv_iload_n C.1 C.2.1 dX16_bits_20 rfl (lv_at hl 0 rfl) ?_
        exact r_iretP hQ C hr hm hs hh dX16_bits_21
      · rw [if_neg c1] at hh
        refine lv_iinc (v := (v1 + 1)) (lv' := [(1, .int (v1 + 1)), (2, .int v2)]) C.1 C.2.1 dX16_bits_8 hl (k := 0) rfl rfl (by decide) rfl (fun ls hl => ?_)
        refine lv_iload_n C.1 C.2.1 dX16_bits_11 rfl (lv_at hl 1 rfl) ?_
        refine lv_iload_n C.1 C.2.1 dX16_bits_12 rfl (lv_at hl 1 rfl) ?_
        refine lv_iconst (v := 1) C.1 C.2.1 dX16_bits_13 (by decide) ?_
        refine lv_isub C.1 C.2.1 dX16_bits_14 ?_
        refine lv_iand C.1 C.2.1 dX16_bits_15 ?_
        refine lv_istore_n (i := 2) (lv' := [(2, .int (v2 &&& (v2 - 1))), (1, .int (v1 + 1))]) C.1 C.2.1 dX16_bits_16 rfl hl (by decide) rfl (fun ls hl => ?_)
        refine lv_goto (tgt := 4) C.1 C.2.1 dX16_bits_17 (by decide) ?_
        exact ih _ _ _ _ _  hm hs (lv_sub hl [1, 0] rfl) hh
  unfold mX16_bits at hh
  refine lv_iconst (v := 0) C.1 C.2.1 dX16_bits_0 (by decide) ?_
  refine lv_istore_n (i := 1) (lv' := [(1, .int 0), (0, .int a0)]) C.1 C.2.1 dX16_bits_1 rfl hl (by decide) rfl (fun ls hl => ?_)
  refine lv_iload_n C.1 C.2.1 dX16_bits_2 rfl (lv_at hl 1 rfl) ?_
  refine lv_istore_n (i := 2) (lv' := [(2, .int a0), (1, .int 0), (0, .int a0)]) C.1 C.2.1 dX16_bits_3 rfl hl (by decide) rfl (fun ls hl => ?_)
  exact B4 FUEL _ _ _ _ _  hm hs (lv_sub hl [1, 0] rfl) hh
def mX16_costOf_b38 (k4 : Nat → Int32 → Int32 → Int32 → Option (Int32)) (h : MHp) (a0 : Nat) (v1 : Int32) (v3 : Int32) (t0 : Int32) (t1 : Int32) : Option (Int32) := k4 a0 v1 (t0 + t1) (v3 + 1)
def mX16_costOf_l4 (h : MHp) : Nat → Nat → Int32 → Int32 → Int32 → Option (Int32)
  | 0, _, _, _, _ => none
  | n + 1, a0, v1, v2, v3 => (gR 17 4 h (some a0)).bind fun x1 => (gI 13 0 h x1).bind fun x2 => (if x2 ≤ v3 then some v2 else (if ((v1 >>> (v3 &&& 31)) &&& 1) = 1 then (gR 17 4 h (some a0)).bind fun x3 => (gR 13 4 h x3).bind fun x4 => (gAI 20 h x4 v3).bind fun x5 => mX16_costOf_b38 (mX16_costOf_l4 h n) h a0 v1 v3 v2 x5 else mX16_costOf_b38 (mX16_costOf_l4 h n) h a0 v1 v3 v2 0))
def mX16_costOf (h : MHp) (a0 : Nat) (a1 : Int32) : Option (Int32) := mX16_costOf_l4 h FUEL a0 a1 0 0
set_option maxRecDepth 100000 in
set_option maxHeartbeats 4000000 in
theorem c_X16_costOf (l : Launch) (G : Env0) (h : MHp) (a0 : Nat) (a1 : Int32) (res : Int32) (hh : mX16_costOf h a0 a1 = some res) : MG l yX16_costOf cX16_costOf 4 (some .int) 0 0 0 0 G h [.ref a0, .int a1] (some (.int res)) (h) := by
  refine MG_of (own := RX16) (plainFor_of_name (by decide)) rfl (Nat.le_of_ble_eq_true rfl) ?_
  intro p e s m args below meth c Q ls hQ C X hin hm hs hl hr
  have hl : lv_has ls 4 [(0, va_rf (some a0)), (1, .int a1)] := hl
  have B38 : ∀ (k4 : Nat → Int32 → Int32 → Int32 → Option (Int32)), (∀ (H : Heap) (locs : List Loc) (ls : Array Slot) (a0 : Nat) (v1 : Int32) (v2 : Int32) (v3 : Int32) , mHp (gD G) (gC G) (gB G) h H → va_S (fun q => gB G ≤ q) s.heap H locs → lv_has ls 4 [(0, va_rf (some a0)), (1, .int v1), (2, .int v2), (3, .int v3)] → k4 a0 v1 v2 v3 = some res → W p l e ({ frames := 0, cells := 0, slots := 0, locals := 0 }) s m args below meth c H locs 0 0 Q (F0 m 4 ls [])) → ∀ (H : Heap) (locs : List Loc) (ls : Array Slot) (a0 : Nat) (v1 : Int32) (v3 : Int32) (t0 : Int32) (t1 : Int32) , mHp (gD G) (gC G) (gB G) h H → va_S (fun q => gB G ≤ q) s.heap H locs → lv_has ls 4 [(0, va_rf (some a0)), (1, .int v1), (3, .int v3)] → mX16_costOf_b38 k4 h a0 v1 v3 t0 t1 = some res → W p l e ({ frames := 0, cells := 0, slots := 0, locals := 0 }) s m args below meth c H locs 0 0 Q (F0 m 38 ls [.int t1, .int t0]) := by
    intro k4 hk4 H locs ls a0 v1 v3 t0 t1 hm hs hl hh
    unfold mX16_costOf_b38 at hh
    refine lv_iadd C.1 C.2.1 dX16_costOf_38 ?_
    refine lv_istore_n (i := 2) (lv' := [(2, .int (t0 + t1)), (0, va_rf (some a0)), (1, .int v1), (3, .int v3)]) C.1 C.2.1 dX16_costOf_39 rfl hl (by decide) rfl (fun ls hl => ?_)
    refine lv_iinc (v := (v3 + 1)) (lv' := [(3, .int (v3 + 1)), (2, .int (t0 + t1)), (0, va_rf (some a0)), (1, .int v1)]) C.1 C.2.1 dX16_costOf_40 hl (k := 3) rfl rfl (by decide) rfl (fun ls hl => ?_)
    refine lv_goto (tgt := 4) C.1 C.2.1 dX16_costOf_43 (by decide) ?_
    exact hk4 _ _ _ _ _ _ _  hm hs (lv_sub hl [2, 3, 1, 0] rfl) hh
  have B4 : ∀ n : Nat, ∀ (H : Heap) (locs : List Loc) (ls : Array Slot) (a0 : Nat) (v1 : Int32) (v2 : Int32) (v3 : Int32) , mHp (gD G) (gC G) (gB G) h H → va_S (fun q => gB G ≤ q) s.heap H locs → lv_has ls 4 [(0, va_rf (some a0)), (1, .int v1), (2, .int v2), (3, .int v3)] → mX16_costOf_l4 h n a0 v1 v2 v3 = some res → W p l e ({ frames := 0, cells := 0, slots := 0, locals := 0 }) s m args below meth c H locs 0 0 Q (F0 m 4 ls []) := by
    intro n
    induction n with
    | zero => intro H locs ls a0 v1 v2 v3 hm hs hl hh; cases hh
    | succ n ih =>
      intro H locs ls a0 v1 v2 v3 hm hs hl hh
      unfold mX16_costOf_l4 at hh
      refine lv_iload_n C.1 C.2.1 dX16_costOf_4 rfl (lv_at hl 3 rfl) ?_
      refine r_aload_n C.1 C.2.1 dX16_costOf_5 rfl (lv_at hl 0 rfl) ?_
      refine r_getR C hm flX16_274 dX16_costOf_6 hh (fun x1 _ hh => ?_)
      refine r_getI C hm flX16_218 dX16_costOf_9 hh (fun x2 _ hh => ?_)
      refine lv_icmp_ge (tgt := 46) C.1 C.2.1 dX16_costOf_12 (by decide) (fun c7 => ?_) (fun c7 => ?_)
      · rw [if_pos c7] at hh
        refine lv_iload_n C.1 C.2.1 dX16_costOf_46 rfl (lv_at hl 2 rfl) ?_
        exact r_iretP hQ C hr hm hs hh dX16_costOf_47
      · rw [if_neg c7] at hh
        refine lv_iload_n C.1 C.2.1 dX16_costOf_15 rfl (lv_at hl 2 rfl) ?_
        refine lv_iload_n C.1 C.2.1 dX16_costOf_16 rfl (lv_at hl 1 rfl) ?_
        refine lv_iload_n C.1 C.2.1 dX16_costOf_17 rfl (lv_at hl 3 rfl) ?_
        refine lv_ishr C.1 C.2.1 dX16_costOf_18 ?_
        refine lv_iconst (v := 1) C.1 C.2.1 dX16_costOf_19 (by decide) ?_
        refine lv_iand C.1 C.2.1 dX16_costOf_20 ?_
        refine lv_iconst (v := 1) C.1 C.2.1 dX16_costOf_21 (by decide) ?_
        refine lv_icmp_ne (tgt := 37) C.1 C.2.1 dX16_costOf_22 (by decide) (fun c6 => ?_) (fun c6 => ?_)
        · rw [if_neg c6] at hh
          refine lv_iconst (v := 0) C.1 C.2.1 dX16_costOf_37 (by decide) ?_
          exact B38 _ ih _ _ _ _ _ _ _ _  hm hs (lv_sub hl [0, 1, 3] rfl) hh
        · rw [if_pos c6] at hh
          refine r_aload_n C.1 C.2.1 dX16_costOf_25 rfl (lv_at hl 0 rfl) ?_
          refine r_getR C hm flX16_274 dX16_costOf_26 hh (fun x3 _ hh => ?_)
          refine r_getR C hm flX16_239 dX16_costOf_29 hh (fun x4 _ hh => ?_)
          refine lv_iload_n C.1 C.2.1 dX16_costOf_32 rfl (lv_at hl 3 rfl) ?_
          refine r_ald C hm dX16_costOf_33 hh (fun x5 _ hh => ?_)
          refine lv_goto (tgt := 38) C.1 C.2.1 dX16_costOf_34 (by decide) ?_
          exact B38 _ ih _ _ _ _ _ _ _ _  hm hs (lv_sub hl [0, 1, 3] rfl) hh
  unfold mX16_costOf at hh
  refine lv_iconst (v := 0) C.1 C.2.1 dX16_costOf_0 (by decide) ?_
  refine lv_istore_n (i := 2) (lv' := [(2, .int 0), (0, va_rf (some a0)), (1, .int a1)]) C.1 C.2.1 dX16_costOf_1 rfl hl (by decide) rfl (fun ls hl => ?_)
  refine lv_iconst (v := 0) C.1 C.2.1 dX16_costOf_2 (by decide) ?_
  refine lv_istore_n (i := 3) (lv' := [(3, .int 0), (2, .int 0), (0, va_rf (some a0)), (1, .int a1)]) C.1 C.2.1 dX16_costOf_3 rfl hl (by decide) rfl (fun ls hl => ?_)
  exact B4 FUEL _ _ _ _ _ _ _  hm hs (lv_sub hl [2, 3, 1, 0] rfl) hh
def mX16_isMended_b44 (k5 : MHp → Nat → Int32 → Option Nat → Int32 → Int32 → Option (Int32 × MHp)) (h : MHp) (a0 : Nat) (v1 : Int32) (v2 : Option Nat) (v4 : Int32) (t0 : Int32) (t1 : Int32) : Option (Int32 × MHp) := k5 h a0 v1 v2 (t0 * t1) (v4 + 1)
def mX16_isMended_b129 (k55 : MHp → Nat → Int32 → Option Nat → Int32 → Int32 → Option (Int32 × MHp)) (k76 : MHp → Nat → Int32 → Option Nat → Int32 → Int32 → Int32 → Int32 → Option (Int32 × MHp)) (h : MHp) (a0 : Nat) (v1 : Int32) (v2 : Option Nat) (v3 : Int32) (v4 : Int32) (v5 : Int32) (v6 : Int32) : Option (Int32 × MHp) := k76 h a0 v1 v2 v3 v4 v5 (v6 + (-1))
def mX16_isMended_l76 (k55 : MHp → Nat → Int32 → Option Nat → Int32 → Int32 → Option (Int32 × MHp)) : Nat → MHp → Nat → Int32 → Option Nat → Int32 → Int32 → Int32 → Int32 → Option (Int32 × MHp)
  | 0, _, _, _, _, _, _, _, _ => none
  | n + 1, h, a0, v1, v2, v3, v4, v5, v6 => (if v6 < 0 then (gR 17 4 h (some a0)).bind fun x1 => (rcv 13 h x1).bind fun b3 => (mX12_broken h b3 v2).bind fun r2 => (if r2 = (-1) then some (1, h) else k55 h a0 v1 v2 v3 (v4 + 1)) else (if ((v1 >>> (v6 &&& 31)) &&& 1) = 0 then mX16_isMended_b129 k55 (mX16_isMended_l76 k55 n) h a0 v1 v2 v3 v4 v5 v6 else (gR 17 4 h (some a0)).bind fun x5 => (gR 13 3 h x5).bind fun x6 => (gAI 20 h x6 v6).bind fun x7 => (nz (x7 + 1)).bind fun _ => (pAI 20 h v2 v6 (v5 - v5 / (x7 + 1) * (x7 + 1))).bind fun h8 => (gR 17 4 h8 (some a0)).bind fun x9 => (gR 13 3 h8 x9).bind fun x10 => (gAI 20 h8 x10 v6).bind fun x11 => (nz (x11 + 1)).bind fun _ => mX16_isMended_b129 k55 (mX16_isMended_l76 k55 n) h8 a0 v1 v2 v3 v4 (v5 / (x11 + 1)) v6))
def mX16_isMended_l55 : Nat → MHp → Nat → Int32 → Option Nat → Int32 → Int32 → Option (Int32 × MHp)
  | 0, _, _, _, _, _, _ => none
  | n + 1, h, a0, v1, v2, v3, v4 => (if v3 ≤ v4 then some (0, h) else (gR 17 4 h (some a0)).bind fun x14 => (gI 13 0 h x14).bind fun x15 => mX16_isMended_l76 (mX16_isMended_l55 n) FUEL h a0 v1 v2 v3 v4 v4 (x15 - 1))
def mX16_isMended_l5 : Nat → MHp → Nat → Int32 → Option Nat → Int32 → Int32 → Option (Int32 × MHp)
  | 0, _, _, _, _, _, _ => none
  | n + 1, h, a0, v1, v2, v3, v4 => (gR 17 4 h (some a0)).bind fun x17 => (gI 13 0 h x17).bind fun x18 => (if x18 ≤ v4 then mX16_isMended_l55 FUEL h a0 v1 v2 v3 0 else (if ((v1 >>> (v4 &&& 31)) &&& 1) = 1 then (gR 17 4 h (some a0)).bind fun x19 => (gR 13 3 h x19).bind fun x20 => (gAI 20 h x20 v4).bind fun x21 => mX16_isMended_b44 (mX16_isMended_l5 n) h a0 v1 v2 v4 v3 (x21 + 1) else mX16_isMended_b44 (mX16_isMended_l5 n) h a0 v1 v2 v4 v3 1))
def mX16_isMended (h : MHp) (a0 : Nat) (a1 : Int32) (a2 : Option Nat) : Option (Int32 × MHp) := mX16_isMended_l5 FUEL h a0 a1 a2 1 0
set_option maxRecDepth 100000 in
set_option maxHeartbeats 4000000 in
theorem c_X16_isMended (l : Launch) (G : Env0) (h : MHp) (a0 : Nat) (a1 : Int32) (a2 : Option Nat) (res : Int32 × MHp) (hh : mX16_isMended h a0 a1 a2 = some res) : MG l yX16_isMended cX16_isMended 7 (some .boolean) 2 48 0 0 G h [.ref a0, .int a1, va_rf a2] (some (.int res.1)) (res.2) := by
  refine MG_of (own := RX16) (plainFor_of_name (by decide)) rfl (by simp [lg_sl, va_cat, vc_i, vc_l, vc_r]) ?_
  intro p e s m args below meth c Q ls hQ C X hin hm hs hl hr
  have hl : lv_has ls 7 [(0, .ref a0), (1, .int a1), (2, va_rf a2)] := by simpa [lv_args, va_cat, vc_i, vc_l, vc_r] using hl
  have hl : lv_has ls 7 [(0, va_rf (some a0)), (1, .int a1), (2, va_rf a2)] := hl
  have B44 : ∀ (k5 : MHp → Nat → Int32 → Option Nat → Int32 → Int32 → Option (Int32 × MHp)), (∀ (h : MHp) (H : Heap) (locs : List Loc) (ls : Array Slot) (a0 : Nat) (v1 : Int32) (v2 : Option Nat) (v3 : Int32) (v4 : Int32) , mHp (gD G) (gC G) (gB G) h H → va_S (fun q => gB G ≤ q) s.heap H locs → lv_has ls 7 [(0, va_rf (some a0)), (1, .int v1), (2, va_rf v2), (3, .int v3), (4, .int v4)] → k5 h a0 v1 v2 v3 v4 = some res → W p l e ({ frames := 2, cells := 0, slots := 0, locals := 48 }) s m args below meth c H locs 0 0 Q (F0 m 5 ls [])) → ∀ (h : MHp) (H : Heap) (locs : List Loc) (ls : Array Slot) (a0 : Nat) (v1 : Int32) (v2 : Option Nat) (v4 : Int32) (t0 : Int32) (t1 : Int32) , mHp (gD G) (gC G) (gB G) h H → va_S (fun q => gB G ≤ q) s.heap H locs → lv_has ls 7 [(0, va_rf (some a0)), (1, .int v1), (2, va_rf v2), (4, .int v4)] → mX16_isMended_b44 k5 h a0 v1 v2 v4 t0 t1 = some res → W p l e ({ frames := 2, cells := 0, slots := 0, locals := 48 }) s m args below meth c H locs 0 0 Q (F0 m 44 ls [.int t1, .int t0]) := by
    intro k5 hk5 h H locs ls a0 v1 v2 v4 t0 t1 hm hs hl hh
    unfold mX16_isMended_b44 at hh
    refine lv_imul C.1 C.2.1 dX16_isMended_44 ?_
    refine lv_istore_n (i := 3) (lv' := [(3, .int (t0 * t1)), (0, va_rf (some a0)), (1, .int v1), (2, va_rf v2), (4, .int v4)]) C.1 C.2.1 dX16_isMended_45 rfl hl (by decide) (by simp [va_cat, vc_i, vc_l, vc_r]) (fun ls hl => ?_)
    refine lv_iinc (v := (v4 + 1)) (lv' := [(4, .int (v4 + 1)), (3, .int (t0 * t1)), (0, va_rf (some a0)), (1, .int v1), (2, va_rf v2)]) C.1 C.2.1 dX16_isMended_46 hl (k := 4) rfl rfl (by decide) rfl (fun ls hl => ?_)
    refine lv_goto (tgt := 5) C.1 C.2.1 dX16_isMended_49 (by decide) ?_
    exact hk5 _ _ _ _ _ _ _ _ _  hm hs (lv_sub hl [2, 3, 4, 1, 0] rfl) hh
  have B129 : ∀ (k55 : MHp → Nat → Int32 → Option Nat → Int32 → Int32 → Option (Int32 × MHp)), (∀ (h : MHp) (H : Heap) (locs : List Loc) (ls : Array Slot) (a0 : Nat) (v1 : Int32) (v2 : Option Nat) (v3 : Int32) (v4 : Int32) , mHp (gD G) (gC G) (gB G) h H → va_S (fun q => gB G ≤ q) s.heap H locs → lv_has ls 7 [(0, va_rf (some a0)), (1, .int v1), (2, va_rf v2), (3, .int v3), (4, .int v4)] → k55 h a0 v1 v2 v3 v4 = some res → W p l e ({ frames := 2, cells := 0, slots := 0, locals := 48 }) s m args below meth c H locs 0 0 Q (F0 m 55 ls [])) → ∀ (k76 : MHp → Nat → Int32 → Option Nat → Int32 → Int32 → Int32 → Int32 → Option (Int32 × MHp)), (∀ (h : MHp) (H : Heap) (locs : List Loc) (ls : Array Slot) (a0 : Nat) (v1 : Int32) (v2 : Option Nat) (v3 : Int32) (v4 : Int32) (v5 : Int32) (v6 : Int32) , mHp (gD G) (gC G) (gB G) h H → va_S (fun q => gB G ≤ q) s.heap H locs → lv_has ls 7 [(0, va_rf (some a0)), (1, .int v1), (2, va_rf v2), (3, .int v3), (4, .int v4), (5, .int v5), (6, .int v6)] → k76 h a0 v1 v2 v3 v4 v5 v6 = some res → W p l e ({ frames := 2, cells := 0, slots := 0, locals := 48 }) s m args below meth c H locs 0 0 Q (F0 m 76 ls [])) → ∀ (h : MHp) (H : Heap) (locs : List Loc) (ls : Array Slot) (a0 : Nat) (v1 : Int32) (v2 : Option Nat) (v3 : Int32) (v4 : Int32) (v5 : Int32) (v6 : Int32) , mHp (gD G) (gC G) (gB G) h H → va_S (fun q => gB G ≤ q) s.heap H locs → lv_has ls 7 [(0, va_rf (some a0)), (1, .int v1), (2, va_rf v2), (3, .int v3), (4, .int v4), (5, .int v5), (6, .int v6)] → mX16_isMended_b129 k55 k76 h a0 v1 v2 v3 v4 v5 v6 = some res → W p l e ({ frames := 2, cells := 0, slots := 0, locals := 48 }) s m args below meth c H locs 0 0 Q (F0 m 129 ls []) := by
    intro k55 hk55 k76 hk76 h H locs ls a0 v1 v2 v3 v4 v5 v6 hm hs hl hh
    unfold mX16_isMended_b129 at hh
    refine lv_iinc (v := (v6 + (-1))) (lv' := [(6, .int (v6 + (-1))), (0, va_rf (some a0)), (1, .int v1), (2, va_rf v2), (3, .int v3), (4, .int v4), (5, .int v5)]) C.1 C.2.1 dX16_isMended_129 hl (k := 6) rfl rfl (by decide) rfl (fun ls hl => ?_)
    refine lv_goto (tgt := 76) C.1 C.2.1 dX16_isMended_132 (by decide) ?_
    exact hk76 _ _ _ _ _ _ _ _ _ _ _  hm hs (lv_sub hl [1, 2, 3, 4, 5, 6, 0] rfl) hh
  have B76 : ∀ (k55 : MHp → Nat → Int32 → Option Nat → Int32 → Int32 → Option (Int32 × MHp)), (∀ (h : MHp) (H : Heap) (locs : List Loc) (ls : Array Slot) (a0 : Nat) (v1 : Int32) (v2 : Option Nat) (v3 : Int32) (v4 : Int32) , mHp (gD G) (gC G) (gB G) h H → va_S (fun q => gB G ≤ q) s.heap H locs → lv_has ls 7 [(0, va_rf (some a0)), (1, .int v1), (2, va_rf v2), (3, .int v3), (4, .int v4)] → k55 h a0 v1 v2 v3 v4 = some res → W p l e ({ frames := 2, cells := 0, slots := 0, locals := 48 }) s m args below meth c H locs 0 0 Q (F0 m 55 ls [])) → ∀ n : Nat, ∀ (h : MHp) (H : Heap) (locs : List Loc) (ls : Array Slot) (a0 : Nat) (v1 : Int32) (v2 : Option Nat) (v3 : Int32) (v4 : Int32) (v5 : Int32) (v6 : Int32) , mHp (gD G) (gC G) (gB G) h H → va_S (fun q => gB G ≤ q) s.heap H locs → lv_has ls 7 [(0, va_rf (some a0)), (1, .int v1), (2, va_rf v2), (3, .int v3), (4, .int v4), (5, .int v5), (6, .int v6)] → mX16_isMended_l76 k55 n h a0 v1 v2 v3 v4 v5 v6 = some res → W p l e ({ frames := 2, cells := 0, slots := 0, locals := 48 }) s m args below meth c H locs 0 0 Q (F0 m 76 ls []) := by
    intro k55 hk55 n
    induction n with
    | zero => intro h H locs ls a0 v1 v2 v3 v4 v5 v6 hm hs hl hh; cases hh
    | succ n ih =>
      intro h H locs ls a0 v1 v2 v3 v4 v5 v6 hm hs hl hh
      unfold mX16_isMended_l76 at hh
      refine lv_iload C.1 C.2.1 dX16_isMended_76 (lv_at hl 6 rfl) ?_
      refine lv_if_lt (tgt := 135) C.1 C.2.1 dX16_isMended_78 (by decide) (fun c13 => ?_) (fun c13 => ?_)
      · rw [if_pos c13] at hh
        refine r_aload_n C.1 C.2.1 dX16_isMended_135 rfl (lv_at hl 0 rfl) ?_
        refine r_getR C hm flX16_274 dX16_isMended_136 hh (fun x1 _ hh => ?_)
        refine r_aload_n C.1 C.2.1 dX16_isMended_139 rfl (lv_at hl 2 rfl) ?_
        refine r_cV C X hm hs mlX16_356 mvX16_356 hh (vv := fun r => some (.int r)) (hp := fun r => h) (fun b r hg => c_X12_broken l G h b _ r hg) rfl rfl (Nat.le_of_ble_eq_true rfl) (Nat.le_of_ble_eq_true rfl) (Nat.le_of_ble_eq_true rfl) hl.1 dX16_isMended_140 (fun b3 r2 H locs hgr2 hh hm hs => ?_)
        refine W.eq (g2 := F0 m 143 ls [.int r2]) rfl ?_
        refine lv_iconst (v := (-1)) C.1 C.2.1 dX16_isMended_143 (by decide) ?_
        refine lv_icmp_ne (tgt := 149) C.1 C.2.1 dX16_isMended_144 (by decide) (fun c4 => ?_) (fun c4 => ?_)
        · rw [if_neg c4] at hh
          refine lv_iinc (v := (v4 + 1)) (lv' := [(4, .int (v4 + 1)), (0, va_rf (some a0)), (1, .int v1), (2, va_rf v2), (3, .int v3), (5, .int v5), (6, .int v6)]) C.1 C.2.1 dX16_isMended_149 hl (k := 4) rfl rfl (by decide) rfl (fun ls hl => ?_)
          refine lv_goto (tgt := 55) C.1 C.2.1 dX16_isMended_152 (by decide) ?_
          exact hk55 _ _ _ _ _ _ _ _ _  hm hs (lv_sub hl [1, 2, 3, 4, 0] rfl) hh
        · rw [if_pos c4] at hh
          refine lv_iconst (v := 1) C.1 C.2.1 dX16_isMended_147 (by decide) ?_
          exact r_bretW hQ C hr hm hs (by decide) hh dX16_isMended_148
      · rw [if_neg c13] at hh
        refine lv_iload_n C.1 C.2.1 dX16_isMended_81 rfl (lv_at hl 1 rfl) ?_
        refine lv_iload C.1 C.2.1 dX16_isMended_82 (lv_at hl 6 rfl) ?_
        refine lv_ishr C.1 C.2.1 dX16_isMended_84 ?_
        refine lv_iconst (v := 1) C.1 C.2.1 dX16_isMended_85 (by decide) ?_
        refine lv_iand C.1 C.2.1 dX16_isMended_86 ?_
        refine lv_if_ne (tgt := 93) C.1 C.2.1 dX16_isMended_87 (by decide) (fun c12 => ?_) (fun c12 => ?_)
        · rw [if_neg c12] at hh
          refine r_aload_n C.1 C.2.1 dX16_isMended_93 rfl (lv_at hl 2 rfl) ?_
          refine lv_iload C.1 C.2.1 dX16_isMended_94 (lv_at hl 6 rfl) ?_
          refine lv_iload C.1 C.2.1 dX16_isMended_96 (lv_at hl 5 rfl) ?_
          refine r_aload_n C.1 C.2.1 dX16_isMended_98 rfl (lv_at hl 0 rfl) ?_
          refine r_getR C hm flX16_274 dX16_isMended_99 hh (fun x5 _ hh => ?_)
          refine r_getR C hm flX16_235 dX16_isMended_102 hh (fun x6 _ hh => ?_)
          refine lv_iload C.1 C.2.1 dX16_isMended_105 (lv_at hl 6 rfl) ?_
          refine r_ald C hm dX16_isMended_107 hh (fun x7 _ hh => ?_)
          refine lv_iconst (v := 1) C.1 C.2.1 dX16_isMended_108 (by decide) ?_
          refine lv_iadd C.1 C.2.1 dX16_isMended_109 ?_
          refine r_irem C dX16_isMended_110 hh (fun _ hh => ?_)
          refine r_ast C hm hs dX16_isMended_111 hh (fun h8 H locs _ hh hm hs => ?_)
          refine lv_iload C.1 C.2.1 dX16_isMended_112 (lv_at hl 5 rfl) ?_
          refine r_aload_n C.1 C.2.1 dX16_isMended_114 rfl (lv_at hl 0 rfl) ?_
          refine r_getR C hm flX16_274 dX16_isMended_115 hh (fun x9 _ hh => ?_)
          refine r_getR C hm flX16_235 dX16_isMended_118 hh (fun x10 _ hh => ?_)
          refine lv_iload C.1 C.2.1 dX16_isMended_121 (lv_at hl 6 rfl) ?_
          refine r_ald C hm dX16_isMended_123 hh (fun x11 _ hh => ?_)
          refine lv_iconst (v := 1) C.1 C.2.1 dX16_isMended_124 (by decide) ?_
          refine lv_iadd C.1 C.2.1 dX16_isMended_125 ?_
          refine r_idiv C dX16_isMended_126 hh (fun _ hh => ?_)
          refine lv_istore (i := 5) (lv' := [(5, .int (v5 / (x11 + 1))), (0, va_rf (some a0)), (1, .int v1), (2, va_rf v2), (3, .int v3), (4, .int v4), (6, .int v6)]) C.1 C.2.1 dX16_isMended_127 hl (by decide) rfl (fun ls hl => ?_)
          exact B129 _ hk55 _ ih _ _ _ _ _ _ _ _ _ _ _  hm hs (lv_sub hl [1, 2, 3, 4, 5, 0, 6] rfl) hh
        · rw [if_pos c12] at hh
          refine lv_goto (tgt := 129) C.1 C.2.1 dX16_isMended_90 (by decide) ?_
          exact B129 _ hk55 _ ih _ _ _ _ _ _ _ _ _ _ _  hm hs (lv_sub hl [0, 1, 2, 3, 4, 5, 6] rfl) hh
  have B55 : ∀ n : Nat, ∀ (h : MHp) (H : Heap) (locs : List Loc) (ls : Array Slot) (a0 : Nat) (v1 : Int32) (v2 : Option Nat) (v3 : Int32) (v4 : Int32) , mHp (gD G) (gC G) (gB G) h H → va_S (fun q => gB G ≤ q) s.heap H locs → lv_has ls 7 [(0, va_rf (some a0)), (1, .int v1), (2, va_rf v2), (3, .int v3), (4, .int v4)] → mX16_isMended_l55 n h a0 v1 v2 v3 v4 = some res → W p l e ({ frames := 2, cells := 0, slots := 0, locals := 48 }) s m args below meth c H locs 0 0 Q (F0 m 55 ls []) := by
    intro n
    induction n with
    | zero => intro h H locs ls a0 v1 v2 v3 v4 hm hs hl hh; cases hh
    | succ n ih =>
      intro h H locs ls a0 v1 v2 v3 v4 hm hs hl hh
      unfold mX16_isMended_l55 at hh
      refine lv_iload C.1 C.2.1 dX16_isMended_55 (lv_at hl 4 rfl) ?_
      refine lv_iload_n C.1 C.2.1 dX16_isMended_57 rfl (lv_at hl 3 rfl) ?_
      refine lv_icmp_ge (tgt := 155) C.1 C.2.1 dX16_isMended_58 (by decide) (fun c16 => ?_) (fun c16 => ?_)
      · rw [if_pos c16] at hh
        refine lv_iconst (v := 0) C.1 C.2.1 dX16_isMended_155 (by decide) ?_
        exact r_bretW hQ C hr hm hs (by decide) hh dX16_isMended_156
      · rw [if_neg c16] at hh
        refine lv_iload C.1 C.2.1 dX16_isMended_61 (lv_at hl 4 rfl) ?_
        refine lv_istore (i := 5) (lv' := [(5, .int v4), (0, va_rf (some a0)), (1, .int v1), (2, va_rf v2), (3, .int v3), (4, .int v4)]) C.1 C.2.1 dX16_isMended_63 hl (by decide) rfl (fun ls hl => ?_)
        refine r_aload_n C.1 C.2.1 dX16_isMended_65 rfl (lv_at hl 1 rfl) ?_
        refine r_getR C hm flX16_274 dX16_isMended_66 hh (fun x14 _ hh => ?_)
        refine r_getI C hm flX16_218 dX16_isMended_69 hh (fun x15 _ hh => ?_)
        refine lv_iconst (v := 1) C.1 C.2.1 dX16_isMended_72 (by decide) ?_
        refine lv_isub C.1 C.2.1 dX16_isMended_73 ?_
        refine lv_istore (i := 6) (lv' := [(6, .int (x15 - 1)), (5, .int v4), (0, va_rf (some a0)), (1, .int v1), (2, va_rf v2), (3, .int v3), (4, .int v4)]) C.1 C.2.1 dX16_isMended_74 hl (by decide) rfl (fun ls hl => ?_)
        exact B76 _ ih FUEL _ _ _ _ _ _ _ _ _ _ _  hm hs (lv_sub hl [2, 3, 4, 5, 6, 1, 0] rfl) hh
  have B5 : ∀ n : Nat, ∀ (h : MHp) (H : Heap) (locs : List Loc) (ls : Array Slot) (a0 : Nat) (v1 : Int32) (v2 : Option Nat) (v3 : Int32) (v4 : Int32) , mHp (gD G) (gC G) (gB G) h H → va_S (fun q => gB G ≤ q) s.heap H locs → lv_has ls 7 [(0, va_rf (some a0)), (1, .int v1), (2, va_rf v2), (3, .int v3), (4, .int v4)] → mX16_isMended_l5 n h a0 v1 v2 v3 v4 = some res → W p l e ({ frames := 2, cells := 0, slots := 0, locals := 48 }) s m args below meth c H locs 0 0 Q (F0 m 5 ls []) := by
    intro n
    induction n with
    | zero => intro h H locs ls a0 v1 v2 v3 v4 hm hs hl hh; cases hh
    | succ n ih =>
      intro h H locs ls a0 v1 v2 v3 v4 hm hs hl hh
      unfold mX16_isMended_l5 at hh
      refine lv_iload C.1 C.2.1 dX16_isMended_5 (lv_at hl 4 rfl) ?_
      refine r_aload_n C.1 C.2.1 dX16_isMended_7 rfl (lv_at hl 0 rfl) ?_
      refine r_getR C hm flX16_274 dX16_isMended_8 hh (fun x17 _ hh => ?_)
      refine r_getI C hm flX16_218 dX16_isMended_11 hh (fun x18 _ hh => ?_)
      refine lv_icmp_ge (tgt := 52) C.1 C.2.1 dX16_isMended_14 (by decide) (fun c23 => ?_) (fun c23 => ?_)
      · rw [if_pos c23] at hh
        refine lv_iconst (v := 0) C.1 C.2.1 dX16_isMended_52 (by decide) ?_
        refine lv_istore (i := 4) (lv' := [(4, .int 0), (0, va_rf (some a0)), (1, .int v1), (2, va_rf v2), (3, .int v3)]) C.1 C.2.1 dX16_isMended_53 hl (by decide) rfl (fun ls hl => ?_)
        exact B55 FUEL _ _ _ _ _ _ _ _ _  hm hs (lv_sub hl [1, 2, 3, 4, 0] rfl) hh
      · rw [if_neg c23] at hh
        refine lv_iload_n C.1 C.2.1 dX16_isMended_17 rfl (lv_at hl 3 rfl) ?_
        refine lv_iload_n C.1 C.2.1 dX16_isMended_18 rfl (lv_at hl 1 rfl) ?_
        refine lv_iload C.1 C.2.1 dX16_isMended_19 (lv_at hl 4 rfl) ?_
        refine lv_ishr C.1 C.2.1 dX16_isMended_21 ?_
        refine lv_iconst (v := 1) C.1 C.2.1 dX16_isMended_22 (by decide) ?_
        refine lv_iand C.1 C.2.1 dX16_isMended_23 ?_
        refine lv_iconst (v := 1) C.1 C.2.1 dX16_isMended_24 (by decide) ?_
        refine lv_icmp_ne (tgt := 43) C.1 C.2.1 dX16_isMended_25 (by decide) (fun c22 => ?_) (fun c22 => ?_)
        · rw [if_neg c22] at hh
          refine lv_iconst (v := 1) C.1 C.2.1 dX16_isMended_43 (by decide) ?_
          exact B44 _ ih _ _ _ _ _ _ _ _ _ _  hm hs (lv_sub hl [0, 1, 2, 4] rfl) hh
        · rw [if_pos c22] at hh
          refine r_aload_n C.1 C.2.1 dX16_isMended_28 rfl (lv_at hl 0 rfl) ?_
          refine r_getR C hm flX16_274 dX16_isMended_29 hh (fun x19 _ hh => ?_)
          refine r_getR C hm flX16_235 dX16_isMended_32 hh (fun x20 _ hh => ?_)
          refine lv_iload C.1 C.2.1 dX16_isMended_35 (lv_at hl 4 rfl) ?_
          refine r_ald C hm dX16_isMended_37 hh (fun x21 _ hh => ?_)
          refine lv_iconst (v := 1) C.1 C.2.1 dX16_isMended_38 (by decide) ?_
          refine lv_iadd C.1 C.2.1 dX16_isMended_39 ?_
          refine lv_goto (tgt := 44) C.1 C.2.1 dX16_isMended_40 (by decide) ?_
          exact B44 _ ih _ _ _ _ _ _ _ _ _ _  hm hs (lv_sub hl [0, 1, 2, 4] rfl) hh
  unfold mX16_isMended at hh
  refine lv_iconst (v := 1) C.1 C.2.1 dX16_isMended_0 (by decide) ?_
  refine lv_istore_n (i := 3) (lv' := [(3, .int 1), (0, va_rf (some a0)), (1, .int a1), (2, va_rf a2)]) C.1 C.2.1 dX16_isMended_1 rfl hl (by decide) (by simp [va_cat, vc_i, vc_l, vc_r]) (fun ls hl => ?_)
  refine lv_iconst (v := 0) C.1 C.2.1 dX16_isMended_2 (by decide) ?_
  refine lv_istore (i := 4) (lv' := [(4, .int 0), (3, .int 1), (0, va_rf (some a0)), (1, .int a1), (2, va_rf a2)]) C.1 C.2.1 dX16_isMended_3 hl (by decide) rfl (fun ls hl => ?_)
  exact B5 FUEL _ _ _ _ _ _ _ _ _  hm hs (lv_sub hl [2, 3, 4, 1, 0] rfl) hh
def mX16_unlike_b167 (k56 : MHp → Nat → Int32 → Int32 → Int32 → Int32 → Option (Int32 × MHp)) (h : MHp) (a0 : Nat) (v3 : Int32) (v4 : Int32) (v6 : Int32) (t0 : Int32) (t1 : Int32) : Option (Int32 × MHp) := k56 h a0 v3 v4 (t0 + t1) (v6 + 1)
def mX16_unlike_b166 (k56 : MHp → Nat → Int32 → Int32 → Int32 → Int32 → Option (Int32 × MHp)) (h : MHp) (a0 : Nat) (v3 : Int32) (v4 : Int32) (v6 : Int32) (t0 : Int32) : Option (Int32 × MHp) := mX16_unlike_b167 k56 h a0 v3 v4 v6 t0 0
def mX16_unlike_b137 (k56 : MHp → Nat → Int32 → Int32 → Int32 → Int32 → Option (Int32 × MHp)) (h : MHp) (a0 : Nat) (v3 : Int32) (v4 : Int32) (v5 : Int32) (v6 : Int32) (v7 : Int32) (t0 : Option Nat) (t1 : Int32) (t2 : Int32) : Option (Int32 × MHp) := (pAI 20 h t0 t1 t2).bind fun h1 => (if v7 = 0 then (gR 17 31 h1 (some a0)).bind fun x2 => (gAI 20 h1 x2 v6).bind fun x3 => (gR 17 29 h1 (some a0)).bind fun x4 => (gAI 20 h1 x4 v6).bind fun x5 => (if x3 = x5 then mX16_unlike_b166 k56 h1 a0 v3 v4 v6 v5 else mX16_unlike_b167 k56 h1 a0 v3 v4 v6 v5 1) else mX16_unlike_b166 k56 h1 a0 v3 v4 v6 v5)
def mX16_unlike_b107 (k56 : MHp → Nat → Int32 → Int32 → Int32 → Int32 → Option (Int32 × MHp)) (h : MHp) (a0 : Nat) (v3 : Int32) (v4 : Int32) (v5 : Int32) (v6 : Int32) (t0 : Int32) : Option (Int32 × MHp) := (gR 17 30 h (some a0)).bind fun x8 => (if t0 = 0 then (gR 17 29 h (some a0)).bind fun x9 => (gAI 20 h x9 v6).bind fun x10 => mX16_unlike_b137 k56 h a0 v3 v4 v5 v6 t0 x8 v6 x10 else (gR 17 31 h (some a0)).bind fun x11 => (gAI 20 h x11 v6).bind fun x12 => mX16_unlike_b137 k56 h a0 v3 v4 v5 v6 t0 x8 v6 x12)
def mX16_unlike_b92 (k56 : MHp → Nat → Int32 → Int32 → Int32 → Int32 → Option (Int32 × MHp)) (h : MHp) (a0 : Nat) (v3 : Int32) (v4 : Int32) (v5 : Int32) (v6 : Int32) : Option (Int32 × MHp) := (if ((v3 >>> (v6 &&& 31)) &&& 1) = 1 then mX16_unlike_b107 k56 h a0 v3 v4 v5 v6 1 else mX16_unlike_b107 k56 h a0 v3 v4 v5 v6 0)
def mX16_unlike_l56 : Nat → MHp → Nat → Int32 → Int32 → Int32 → Int32 → Option (Int32 × MHp)
  | 0, _, _, _, _, _, _ => none
  | n + 1, h, a0, v3, v4, v5, v6 => (gR 17 4 h (some a0)).bind fun x15 => (gI 13 0 h x15).bind fun x16 => (if x16 ≤ v6 then (gR 17 4 h (some a0)).bind fun x17 => (gR 17 30 h (some a0)).bind fun x18 => (rcv 13 h x17).bind fun b20 => (mX12_broken h b20 x18).bind fun r19 => (if r19 = (-1) then some (v5, h) else some ((-1), h)) else (if ((v4 >>> (v6 &&& 31)) &&& 1) = 1 then (gR 17 31 h (some a0)).bind fun x22 => (gAI 20 h x22 v6).bind fun x23 => (if x23 = (-1) then some ((-1), h) else mX16_unlike_b92 (mX16_unlike_l56 n) h a0 v3 v4 v5 v6) else mX16_unlike_b92 (mX16_unlike_l56 n) h a0 v3 v4 v5 v6))
def mX16_unlike (h : MHp) (a0 : Nat) (a1 : Int32) (a2 : Int32) (a3 : Int32) (a4 : Int32) : Option (Int32 × MHp) := (if a2 = a1 then some ((-1), h) else (gI 17 19 h (some a0)).bind fun x27 => (rcv 17 h (some a0)).bind fun b29 => (mX16_isThere h b29 a2 x27).bind fun r28 => (if r28 = 0 then some ((-1), h) else (gI 17 19 h (some a0)).bind fun x30 => (gR 17 31 h (some a0)).bind fun x31 => (rcv 17 h (some a0)).bind fun b33 => (mX16_loads h b33 a2 x30 0 x31).bind fun r32 => (gR 17 4 r32 (some a0)).bind fun x34 => (gR 17 31 r32 (some a0)).bind fun x35 => (rcv 13 r32 x34).bind fun b37 => (mX12_broken r32 b37 x35).bind fun r36 => (if r36 = (-1) then mX16_unlike_l56 FUEL r32 a0 a3 a4 0 0 else some ((-1), r32))))
set_option maxRecDepth 100000 in
set_option maxHeartbeats 4000000 in
theorem c_X16_unlike (l : Launch) (G : Env0) (h : MHp) (a0 : Nat) (a1 : Int32) (a2 : Int32) (a3 : Int32) (a4 : Int32) (res : Int32 × MHp) (hh : mX16_unlike h a0 a1 a2 a3 a4 = some res) : MG l yX16_unlike cX16_unlike 8 (some .int) 2 50 0 0 G h [.ref a0, .int a1, .int a2, .int a3, .int a4] (some (.int res.1)) (res.2) := by
  refine MG_of (own := RX16) (plainFor_of_name (by decide)) rfl (Nat.le_of_ble_eq_true rfl) ?_
  intro p e s m args below meth c Q ls hQ C X hin hm hs hl hr
  have hl : lv_has ls 8 [(0, va_rf (some a0)), (1, .int a1), (2, .int a2), (3, .int a3), (4, .int a4)] := hl
  have B167 : ∀ (k56 : MHp → Nat → Int32 → Int32 → Int32 → Int32 → Option (Int32 × MHp)), (∀ (h : MHp) (H : Heap) (locs : List Loc) (ls : Array Slot) (a0 : Nat) (v3 : Int32) (v4 : Int32) (v5 : Int32) (v6 : Int32) , mHp (gD G) (gC G) (gB G) h H → va_S (fun q => gB G ≤ q) s.heap H locs → lv_has ls 8 [(0, va_rf (some a0)), (3, .int v3), (4, .int v4), (5, .int v5), (6, .int v6)] → k56 h a0 v3 v4 v5 v6 = some res → W p l e ({ frames := 2, cells := 0, slots := 0, locals := 50 }) s m args below meth c H locs 0 0 Q (F0 m 56 ls [])) → ∀ (h : MHp) (H : Heap) (locs : List Loc) (ls : Array Slot) (a0 : Nat) (v3 : Int32) (v4 : Int32) (v6 : Int32) (t0 : Int32) (t1 : Int32) , mHp (gD G) (gC G) (gB G) h H → va_S (fun q => gB G ≤ q) s.heap H locs → lv_has ls 8 [(0, va_rf (some a0)), (3, .int v3), (4, .int v4), (6, .int v6)] → mX16_unlike_b167 k56 h a0 v3 v4 v6 t0 t1 = some res → W p l e ({ frames := 2, cells := 0, slots := 0, locals := 50 }) s m args below meth c H locs 0 0 Q (F0 m 167 ls [.int t1, .int t0]) := by
    intro k56 hk56 h H locs ls a0 v3 v4 v6 t0 t1 hm hs hl hh
    unfold mX16_unlike_b167 at hh
    refine lv_iadd C.1 C.2.1 dX16_unlike_167 ?_
    refine lv_istore (i := 5) (lv' := [(5, .int (t0 + t1)), (0, va_rf (some a0)), (3, .int v3), (4, .int v4), (6, .int v6)]) C.1 C.2.1 dX16_unlike_168 hl (by decide) rfl (fun ls hl => ?_)
    refine lv_iinc (v := (v6 + 1)) (lv' := [(6, .int (v6 + 1)), (5, .int (t0 + t1)), (0, va_rf (some a0)), (3, .int v3), (4, .int v4)]) C.1 C.2.1 dX16_unlike_170 hl (k := 4) rfl rfl (by decide) rfl (fun ls hl => ?_)
    refine lv_goto (tgt := 56) C.1 C.2.1 dX16_unlike_173 (by decide) ?_
    exact hk56 _ _ _ _ _ _ _ _ _  hm hs (lv_sub hl [2, 3, 4, 1, 0] rfl) hh
  have B166 : ∀ (k56 : MHp → Nat → Int32 → Int32 → Int32 → Int32 → Option (Int32 × MHp)), (∀ (h : MHp) (H : Heap) (locs : List Loc) (ls : Array Slot) (a0 : Nat) (v3 : Int32) (v4 : Int32) (v5 : Int32) (v6 : Int32) , mHp (gD G) (gC G) (gB G) h H → va_S (fun q => gB G ≤ q) s.heap H locs → lv_has ls 8 [(0, va_rf (some a0)), (3, .int v3), (4, .int v4), (5, .int v5), (6, .int v6)] → k56 h a0 v3 v4 v5 v6 = some res → W p l e ({ frames := 2, cells := 0, slots := 0, locals := 50 }) s m args below meth c H locs 0 0 Q (F0 m 56 ls [])) → ∀ (h : MHp) (H : Heap) (locs : List Loc) (ls : Array Slot) (a0 : Nat) (v3 : Int32) (v4 : Int32) (v6 : Int32) (t0 : Int32) , mHp (gD G) (gC G) (gB G) h H → va_S (fun q => gB G ≤ q) s.heap H locs → lv_has ls 8 [(0, va_rf (some a0)), (3, .int v3), (4, .int v4), (6, .int v6)] → mX16_unlike_b166 k56 h a0 v3 v4 v6 t0 = some res → W p l e ({ frames := 2, cells := 0, slots := 0, locals := 50 }) s m args below meth c H locs 0 0 Q (F0 m 166 ls [.int t0]) := by
    intro k56 hk56 h H locs ls a0 v3 v4 v6 t0 hm hs hl hh
    unfold mX16_unlike_b166 at hh
    refine lv_iconst (v := 0) C.1 C.2.1 dX16_unlike_166 (by decide) ?_
    exact B167 _ hk56 _ _ _ _ _ _ _ _ _ _  hm hs (lv_sub hl [0, 1, 2, 3] rfl) hh
  have B137 : ∀ (k56 : MHp → Nat → Int32 → Int32 → Int32 → Int32 → Option (Int32 × MHp)), (∀ (h : MHp) (H : Heap) (locs : List Loc) (ls : Array Slot) (a0 : Nat) (v3 : Int32) (v4 : Int32) (v5 : Int32) (v6 : Int32) , mHp (gD G) (gC G) (gB G) h H → va_S (fun q => gB G ≤ q) s.heap H locs → lv_has ls 8 [(0, va_rf (some a0)), (3, .int v3), (4, .int v4), (5, .int v5), (6, .int v6)] → k56 h a0 v3 v4 v5 v6 = some res → W p l e ({ frames := 2, cells := 0, slots := 0, locals := 50 }) s m args below meth c H locs 0 0 Q (F0 m 56 ls [])) → ∀ (h : MHp) (H : Heap) (locs : List Loc) (ls : Array Slot) (a0 : Nat) (v3 : Int32) (v4 : Int32) (v5 : Int32) (v6 : Int32) (v7 : Int32) (t0 : Option Nat) (t1 : Int32) (t2 : Int32) , mHp (gD G) (gC G) (gB G) h H → va_S (fun q => gB G ≤ q) s.heap H locs → lv_has ls 8 [(0, va_rf (some a0)), (3, .int v3), (4, .int v4), (5, .int v5), (6, .int v6), (7, .int v7)] → mX16_unlike_b137 k56 h a0 v3 v4 v5 v6 v7 t0 t1 t2 = some res → W p l e ({ frames := 2, cells := 0, slots := 0, locals := 50 }) s m args below meth c H locs 0 0 Q (F0 m 137 ls [.int t2, .int t1, va_rf t0]) := by
    intro k56 hk56 h H locs ls a0 v3 v4 v5 v6 v7 t0 t1 t2 hm hs hl hh
    unfold mX16_unlike_b137 at hh
    refine r_ast C hm hs dX16_unlike_137 hh (fun h1 H locs _ hh hm hs => ?_)
    refine lv_iload C.1 C.2.1 dX16_unlike_138 (lv_at hl 3 rfl) ?_
    refine lv_iload C.1 C.2.1 dX16_unlike_140 (lv_at hl 5 rfl) ?_
    refine lv_if_ne (tgt := 166) C.1 C.2.1 dX16_unlike_142 (by decide) (fun c7 => ?_) (fun c7 => ?_)
    · rw [if_neg c7] at hh
      exact B166 _ hk56 _ _ _ _ _ _ _ _ _  hm hs (lv_sub hl [0, 1, 2, 4] rfl) hh
    · rw [if_pos c7] at hh
      refine r_aload_n C.1 C.2.1 dX16_unlike_145 rfl (lv_at hl 0 rfl) ?_
      refine r_getR C hm flX16_64 dX16_unlike_146 hh (fun x2 _ hh => ?_)
      refine lv_iload C.1 C.2.1 dX16_unlike_149 (lv_at hl 4 rfl) ?_
      refine r_ald C hm dX16_unlike_151 hh (fun x3 _ hh => ?_)
      refine r_aload_n C.1 C.2.1 dX16_unlike_152 rfl (lv_at hl 0 rfl) ?_
      refine r_getR C hm flX16_58 dX16_unlike_153 hh (fun x4 _ hh => ?_)
      refine lv_iload C.1 C.2.1 dX16_unlike_156 (lv_at hl 4 rfl) ?_
      refine r_ald C hm dX16_unlike_158 hh (fun x5 _ hh => ?_)
      refine lv_icmp_eq (tgt := 166) C.1 C.2.1 dX16_unlike_159 (by decide) (fun c6 => ?_) (fun c6 => ?_)
      · rw [if_pos c6] at hh
        exact B166 _ hk56 _ _ _ _ _ _ _ _ _  hm hs (lv_sub hl [0, 1, 2, 4] rfl) hh
      · rw [if_neg c6] at hh
        refine lv_iconst (v := 1) C.1 C.2.1 dX16_unlike_162 (by decide) ?_
        refine lv_goto (tgt := 167) C.1 C.2.1 dX16_unlike_163 (by decide) ?_
        exact B167 _ hk56 _ _ _ _ _ _ _ _ _ _  hm hs (lv_sub hl [0, 1, 2, 4] rfl) hh
  have B107 : ∀ (k56 : MHp → Nat → Int32 → Int32 → Int32 → Int32 → Option (Int32 × MHp)), (∀ (h : MHp) (H : Heap) (locs : List Loc) (ls : Array Slot) (a0 : Nat) (v3 : Int32) (v4 : Int32) (v5 : Int32) (v6 : Int32) , mHp (gD G) (gC G) (gB G) h H → va_S (fun q => gB G ≤ q) s.heap H locs → lv_has ls 8 [(0, va_rf (some a0)), (3, .int v3), (4, .int v4), (5, .int v5), (6, .int v6)] → k56 h a0 v3 v4 v5 v6 = some res → W p l e ({ frames := 2, cells := 0, slots := 0, locals := 50 }) s m args below meth c H locs 0 0 Q (F0 m 56 ls [])) → ∀ (h : MHp) (H : Heap) (locs : List Loc) (ls : Array Slot) (a0 : Nat) (v3 : Int32) (v4 : Int32) (v5 : Int32) (v6 : Int32) (t0 : Int32) , mHp (gD G) (gC G) (gB G) h H → va_S (fun q => gB G ≤ q) s.heap H locs → lv_has ls 8 [(0, va_rf (some a0)), (3, .int v3), (4, .int v4), (5, .int v5), (6, .int v6)] → mX16_unlike_b107 k56 h a0 v3 v4 v5 v6 t0 = some res → W p l e ({ frames := 2, cells := 0, slots := 0, locals := 50 }) s m args below meth c H locs 0 0 Q (F0 m 107 ls [.int t0]) := by
    intro k56 hk56 h H locs ls a0 v3 v4 v5 v6 t0 hm hs hl hh
    unfold mX16_unlike_b107 at hh
    refine lv_istore (i := 7) (lv' := [(7, .int t0), (0, va_rf (some a0)), (3, .int v3), (4, .int v4), (5, .int v5), (6, .int v6)]) C.1 C.2.1 dX16_unlike_107 hl (by decide) rfl (fun ls hl => ?_)
    refine r_aload_n C.1 C.2.1 dX16_unlike_109 rfl (lv_at hl 1 rfl) ?_
    refine r_getR C hm flX16_61 dX16_unlike_110 hh (fun x8 _ hh => ?_)
    refine lv_iload C.1 C.2.1 dX16_unlike_113 (lv_at hl 5 rfl) ?_
    refine lv_iload C.1 C.2.1 dX16_unlike_115 (lv_at hl 0 rfl) ?_
    refine lv_if_eq (tgt := 130) C.1 C.2.1 dX16_unlike_117 (by decide) (fun c13 => ?_) (fun c13 => ?_)
    · rw [if_pos c13] at hh
      refine r_aload_n C.1 C.2.1 dX16_unlike_130 rfl (lv_at hl 1 rfl) ?_
      refine r_getR C hm flX16_58 dX16_unlike_131 hh (fun x9 _ hh => ?_)
      refine lv_iload C.1 C.2.1 dX16_unlike_134 (lv_at hl 5 rfl) ?_
      refine r_ald C hm dX16_unlike_136 hh (fun x10 _ hh => ?_)
      exact B137 _ hk56 _ _ _ _ _ _ _ _ _ _ _ _ _  hm hs (lv_sub hl [1, 2, 3, 4, 5, 0] rfl) hh
    · rw [if_neg c13] at hh
      refine r_aload_n C.1 C.2.1 dX16_unlike_120 rfl (lv_at hl 1 rfl) ?_
      refine r_getR C hm flX16_64 dX16_unlike_121 hh (fun x11 _ hh => ?_)
      refine lv_iload C.1 C.2.1 dX16_unlike_124 (lv_at hl 5 rfl) ?_
      refine r_ald C hm dX16_unlike_126 hh (fun x12 _ hh => ?_)
      refine lv_goto (tgt := 137) C.1 C.2.1 dX16_unlike_127 (by decide) ?_
      exact B137 _ hk56 _ _ _ _ _ _ _ _ _ _ _ _ _  hm hs (lv_sub hl [1, 2, 3, 4, 5, 0] rfl) hh
  have B92 : ∀ (k56 : MHp → Nat → Int32 → Int32 → Int32 → Int32 → Option (Int32 × MHp)), (∀ (h : MHp) (H : Heap) (locs : List Loc) (ls : Array Slot) (a0 : Nat) (v3 : Int32) (v4 : Int32) (v5 : Int32) (v6 : Int32) , mHp (gD G) (gC G) (gB G) h H → va_S (fun q => gB G ≤ q) s.heap H locs → lv_has ls 8 [(0, va_rf (some a0)), (3, .int v3), (4, .int v4), (5, .int v5), (6, .int v6)] → k56 h a0 v3 v4 v5 v6 = some res → W p l e ({ frames := 2, cells := 0, slots := 0, locals := 50 }) s m args below meth c H locs 0 0 Q (F0 m 56 ls [])) → ∀ (h : MHp) (H : Heap) (locs : List Loc) (ls : Array Slot) (a0 : Nat) (v3 : Int32) (v4 : Int32) (v5 : Int32) (v6 : Int32) , mHp (gD G) (gC G) (gB G) h H → va_S (fun q => gB G ≤ q) s.heap H locs → lv_has ls 8 [(0, va_rf (some a0)), (3, .int v3), (4, .int v4), (5, .int v5), (6, .int v6)] → mX16_unlike_b92 k56 h a0 v3 v4 v5 v6 = some res → W p l e ({ frames := 2, cells := 0, slots := 0, locals := 50 }) s m args below meth c H locs 0 0 Q (F0 m 92 ls []) := by
    intro k56 hk56 h H locs ls a0 v3 v4 v5 v6 hm hs hl hh
    unfold mX16_unlike_b92 at hh
    refine lv_iload_n C.1 C.2.1 dX16_unlike_92 rfl (lv_at hl 1 rfl) ?_
    refine lv_iload C.1 C.2.1 dX16_unlike_93 (lv_at hl 4 rfl) ?_
    refine lv_ishr C.1 C.2.1 dX16_unlike_95 ?_
    refine lv_iconst (v := 1) C.1 C.2.1 dX16_unlike_96 (by decide) ?_
    refine lv_iand C.1 C.2.1 dX16_unlike_97 ?_
    refine lv_iconst (v := 1) C.1 C.2.1 dX16_unlike_98 (by decide) ?_
    refine lv_icmp_ne (tgt := 106) C.1 C.2.1 dX16_unlike_99 (by decide) (fun c14 => ?_) (fun c14 => ?_)
    · rw [if_neg c14] at hh
      refine lv_iconst (v := 0) C.1 C.2.1 dX16_unlike_106 (by decide) ?_
      exact B107 _ hk56 _ _ _ _ _ _ _ _ _ _  hm hs (lv_sub hl [0, 1, 2, 3, 4] rfl) hh
    · rw [if_pos c14] at hh
      refine lv_iconst (v := 1) C.1 C.2.1 dX16_unlike_102 (by decide) ?_
      refine lv_goto (tgt := 107) C.1 C.2.1 dX16_unlike_103 (by decide) ?_
      exact B107 _ hk56 _ _ _ _ _ _ _ _ _ _  hm hs (lv_sub hl [0, 1, 2, 3, 4] rfl) hh
  have B56 : ∀ n : Nat, ∀ (h : MHp) (H : Heap) (locs : List Loc) (ls : Array Slot) (a0 : Nat) (v3 : Int32) (v4 : Int32) (v5 : Int32) (v6 : Int32) , mHp (gD G) (gC G) (gB G) h H → va_S (fun q => gB G ≤ q) s.heap H locs → lv_has ls 8 [(0, va_rf (some a0)), (3, .int v3), (4, .int v4), (5, .int v5), (6, .int v6)] → mX16_unlike_l56 n h a0 v3 v4 v5 v6 = some res → W p l e ({ frames := 2, cells := 0, slots := 0, locals := 50 }) s m args below meth c H locs 0 0 Q (F0 m 56 ls []) := by
    intro n
    induction n with
    | zero => intro h H locs ls a0 v3 v4 v5 v6 hm hs hl hh; cases hh
    | succ n ih =>
      intro h H locs ls a0 v3 v4 v5 v6 hm hs hl hh
      unfold mX16_unlike_l56 at hh
      refine lv_iload C.1 C.2.1 dX16_unlike_56 (lv_at hl 4 rfl) ?_
      refine r_aload_n C.1 C.2.1 dX16_unlike_58 rfl (lv_at hl 0 rfl) ?_
      refine r_getR C hm flX16_274 dX16_unlike_59 hh (fun x15 _ hh => ?_)
      refine r_getI C hm flX16_218 dX16_unlike_62 hh (fun x16 _ hh => ?_)
      refine lv_icmp_ge (tgt := 176) C.1 C.2.1 dX16_unlike_65 (by decide) (fun c26 => ?_) (fun c26 => ?_)
      · rw [if_pos c26] at hh
        refine r_aload_n C.1 C.2.1 dX16_unlike_176 rfl (lv_at hl 0 rfl) ?_
        refine r_getR C hm flX16_274 dX16_unlike_177 hh (fun x17 _ hh => ?_)
        refine r_aload_n C.1 C.2.1 dX16_unlike_180 rfl (lv_at hl 0 rfl) ?_
        refine r_getR C hm flX16_61 dX16_unlike_181 hh (fun x18 _ hh => ?_)
        refine r_cV C X hm hs mlX16_356 mvX16_356 hh (vv := fun r => some (.int r)) (hp := fun r => h) (fun b r hg => c_X12_broken l G h b _ r hg) rfl rfl (Nat.le_of_ble_eq_true rfl) (Nat.le_of_ble_eq_true rfl) (Nat.le_of_ble_eq_true rfl) hl.1 dX16_unlike_184 (fun b20 r19 H locs hgr19 hh hm hs => ?_)
        refine W.eq (g2 := F0 m 187 ls [.int r19]) rfl ?_
        refine lv_iconst (v := (-1)) C.1 C.2.1 dX16_unlike_187 (by decide) ?_
        refine lv_icmp_ne (tgt := 196) C.1 C.2.1 dX16_unlike_188 (by decide) (fun c21 => ?_) (fun c21 => ?_)
        · rw [if_neg c21] at hh
          refine lv_iconst (v := (-1)) C.1 C.2.1 dX16_unlike_196 (by decide) ?_
          exact r_iretW hQ C hr hm hs hh dX16_unlike_197
        · rw [if_pos c21] at hh
          refine lv_iload C.1 C.2.1 dX16_unlike_191 (lv_at hl 3 rfl) ?_
          refine lv_goto (tgt := 197) C.1 C.2.1 dX16_unlike_193 (by decide) ?_
          exact r_iretW hQ C hr hm hs hh dX16_unlike_197
      · rw [if_neg c26] at hh
        refine lv_iload C.1 C.2.1 dX16_unlike_68 (lv_at hl 2 rfl) ?_
        refine lv_iload C.1 C.2.1 dX16_unlike_70 (lv_at hl 4 rfl) ?_
        refine lv_ishr C.1 C.2.1 dX16_unlike_72 ?_
        refine lv_iconst (v := 1) C.1 C.2.1 dX16_unlike_73 (by decide) ?_
        refine lv_iand C.1 C.2.1 dX16_unlike_74 ?_
        refine lv_iconst (v := 1) C.1 C.2.1 dX16_unlike_75 (by decide) ?_
        refine lv_icmp_ne (tgt := 92) C.1 C.2.1 dX16_unlike_76 (by decide) (fun c25 => ?_) (fun c25 => ?_)
        · rw [if_neg c25] at hh
          exact B92 _ ih _ _ _ _ _ _ _ _ _  hm hs (lv_sub hl [0, 1, 2, 3, 4] rfl) hh
        · rw [if_pos c25] at hh
          refine r_aload_n C.1 C.2.1 dX16_unlike_79 rfl (lv_at hl 0 rfl) ?_
          refine r_getR C hm flX16_64 dX16_unlike_80 hh (fun x22 _ hh => ?_)
          refine lv_iload C.1 C.2.1 dX16_unlike_83 (lv_at hl 4 rfl) ?_
          refine r_ald C hm dX16_unlike_85 hh (fun x23 _ hh => ?_)
          refine lv_iconst (v := (-1)) C.1 C.2.1 dX16_unlike_86 (by decide) ?_
          refine lv_icmp_ne (tgt := 92) C.1 C.2.1 dX16_unlike_87 (by decide) (fun c24 => ?_) (fun c24 => ?_)
          · rw [if_neg c24] at hh
            exact B92 _ ih _ _ _ _ _ _ _ _ _  hm hs (lv_sub hl [0, 1, 2, 3, 4] rfl) hh
          · rw [if_pos c24] at hh
            refine lv_iconst (v := (-1)) C.1 C.2.1 dX16_unlike_90 (by decide) ?_
            exact r_iretW hQ C hr hm hs hh dX16_unlike_91
  unfold mX16_unlike at hh
  refine lv_iload_n C.1 C.2.1 dX16_unlike_0 rfl (lv_at hl 2 rfl) ?_
  refine lv_iload_n C.1 C.2.1 dX16_unlike_1 rfl (lv_at hl 1 rfl) ?_
  refine lv_icmp_eq (tgt := 17) C.1 C.2.1 dX16_unlike_2 (by decide) (fun c40 => ?_) (fun c40 => ?_)
  · rw [if_pos c40] at hh
    refine lv_iconst (v := (-1)) C.1 C.2.1 dX16_unlike_17 (by decide) ?_
    exact r_iretW hQ C hr hm hs hh dX16_unlike_18
  · rw [if_neg c40] at hh
    refine r_aload_n C.1 C.2.1 dX16_unlike_5 rfl (lv_at hl 0 rfl) ?_
    refine lv_iload_n C.1 C.2.1 dX16_unlike_6 rfl (lv_at hl 2 rfl) ?_
    refine r_aload_n C.1 C.2.1 dX16_unlike_7 rfl (lv_at hl 0 rfl) ?_
    refine r_getI C hm flX16_314 dX16_unlike_8 hh (fun x27 _ hh => ?_)
    refine r_cV C X hm hs mlX16_353 mvX16_353 hh (vv := fun r => some (.int r)) (hp := fun r => h) (fun b r hg => c_X16_isThere l G h b _ _ r hg) rfl rfl (Nat.le_of_ble_eq_true rfl) (Nat.le_of_ble_eq_true rfl) (Nat.le_of_ble_eq_true rfl) hl.1 dX16_unlike_11 (fun b29 r28 H locs hgr28 hh hm hs => ?_)
    refine W.eq (g2 := F0 m 14 ls [.int r28]) rfl ?_
    refine lv_if_ne (tgt := 19) C.1 C.2.1 dX16_unlike_14 (by decide) (fun c39 => ?_) (fun c39 => ?_)
    · rw [if_neg c39] at hh
      refine r_aload_n C.1 C.2.1 dX16_unlike_19 rfl (lv_at hl 0 rfl) ?_
      refine lv_iload_n C.1 C.2.1 dX16_unlike_20 rfl (lv_at hl 2 rfl) ?_
      refine r_aload_n C.1 C.2.1 dX16_unlike_21 rfl (lv_at hl 0 rfl) ?_
      refine r_getI C hm flX16_314 dX16_unlike_22 hh (fun x30 _ hh => ?_)
      refine lv_iconst (v := 0) C.1 C.2.1 dX16_unlike_25 (by decide) ?_
      refine r_aload_n C.1 C.2.1 dX16_unlike_26 rfl (lv_at hl 0 rfl) ?_
      refine r_getR C hm flX16_64 dX16_unlike_27 hh (fun x31 _ hh => ?_)
      refine r_cV C X hm hs mlX16_349 mvX16_349 hh (vv := fun r => none) (hp := fun r => r) (fun b r hg => c_X16_loads l G h b _ _ _ _ r hg) rfl rfl (Nat.le_of_ble_eq_true rfl) (Nat.le_of_ble_eq_true rfl) (Nat.le_of_ble_eq_true rfl) hl.1 dX16_unlike_30 (fun b33 r32 H locs hgr32 hh hm hs => ?_)
      refine W.eq (g2 := F0 m 33 ls []) rfl ?_
      refine r_aload_n C.1 C.2.1 dX16_unlike_33 rfl (lv_at hl 0 rfl) ?_
      refine r_getR C hm flX16_274 dX16_unlike_34 hh (fun x34 _ hh => ?_)
      refine r_aload_n C.1 C.2.1 dX16_unlike_37 rfl (lv_at hl 0 rfl) ?_
      refine r_getR C hm flX16_64 dX16_unlike_38 hh (fun x35 _ hh => ?_)
      refine r_cV C X hm hs mlX16_356 mvX16_356 hh (vv := fun r => some (.int r)) (hp := fun r => r32) (fun b r hg => c_X12_broken l G r32 b _ r hg) rfl rfl (Nat.le_of_ble_eq_true rfl) (Nat.le_of_ble_eq_true rfl) (Nat.le_of_ble_eq_true rfl) hl.1 dX16_unlike_41 (fun b37 r36 H locs hgr36 hh hm hs => ?_)
      refine W.eq (g2 := F0 m 44 ls [.int r36]) rfl ?_
      refine lv_iconst (v := (-1)) C.1 C.2.1 dX16_unlike_44 (by decide) ?_
      refine lv_icmp_eq (tgt := 50) C.1 C.2.1 dX16_unlike_45 (by decide) (fun c38 => ?_) (fun c38 => ?_)
      · rw [if_pos c38] at hh
        refine lv_iconst (v := 0) C.1 C.2.1 dX16_unlike_50 (by decide) ?_
        refine lv_istore (i := 5) (lv' := [(5, .int 0), (0, va_rf (some a0)), (1, .int a1), (2, .int a2), (3, .int a3), (4, .int a4)]) C.1 C.2.1 dX16_unlike_51 hl (by decide) rfl (fun ls hl => ?_)
        refine lv_iconst (v := 0) C.1 C.2.1 dX16_unlike_53 (by decide) ?_
        refine lv_istore (i := 6) (lv' := [(6, .int 0), (5, .int 0), (0, va_rf (some a0)), (1, .int a1), (2, .int a2), (3, .int a3), (4, .int a4)]) C.1 C.2.1 dX16_unlike_54 hl (by decide) rfl (fun ls hl => ?_)
        exact B56 FUEL _ _ _ _ _ _ _ _ _  hm hs (lv_sub hl [2, 5, 6, 1, 0] rfl) hh
      · rw [if_neg c38] at hh
        refine lv_iconst (v := (-1)) C.1 C.2.1 dX16_unlike_48 (by decide) ?_
        exact r_iretW hQ C hr hm hs hh dX16_unlike_49
    · rw [if_pos c39] at hh
      refine lv_iconst (v := (-1)) C.1 C.2.1 dX16_unlike_17 (by decide) ?_
      exact r_iretW hQ C hr hm hs hh dX16_unlike_18
def mX16_mend_b68 (h : MHp) (a0 : Nat) : Option (Int32 × MHp) := (rcv 17 h (some a0)).bind fun b2 => (mX16_refused h b2 5).bind fun r1 => some (r1.1, r1.2)
def mX16_mend_b219 (k78 : MHp → Nat → Int32 → Int32 → Int32 → Option (Int32 × MHp)) (h : MHp) (a0 : Nat) (v1 : Int32) (v2 : Int32) (v3 : Int32) : Option (Int32 × MHp) := k78 h a0 v1 v2 (v3 + 1)
def mX16_mend_l173 (k78 : MHp → Nat → Int32 → Int32 → Int32 → Option (Int32 × MHp)) : Nat → MHp → Nat → Int32 → Int32 → Int32 → Int32 → Option (Int32 × MHp)
  | 0, _, _, _, _, _, _ => none
  | n + 1, h, a0, v1, v2, v3, v8 => (gR 17 4 h (some a0)).bind fun x3 => (gI 13 0 h x3).bind fun x4 => (if x4 ≤ v8 then (gR 17 30 h (some a0)).bind fun x5 => (rcv 17 h (some a0)).bind fun b7 => (mX16_isMended h b7 v3 x5).bind fun r6 => (if r6.1 = 0 then mX16_mend_b219 k78 r6.2 a0 v1 v2 v3 else mX16_mend_b219 k78 r6.2 a0 v1 v3 v3) else (gR 17 30 h (some a0)).bind fun x9 => (gR 17 29 h (some a0)).bind fun x10 => (gAI 20 h x10 v8).bind fun x11 => (pAI 20 h x9 v8 x11).bind fun h12 => mX16_mend_l173 k78 n h12 a0 v1 v2 v3 (v8 + 1))
def mX16_mend_b160 (k78 : MHp → Nat → Int32 → Int32 → Int32 → Option (Int32 × MHp)) (h : MHp) (a0 : Nat) (v1 : Int32) (v2 : Int32) (v3 : Int32) (t0 : Int32) : Option (Int32 × MHp) := (if t0 = 0 then mX16_mend_b219 k78 h a0 v1 v2 v3 else mX16_mend_l173 k78 FUEL h a0 v1 v2 v3 0)
def mX16_mend_b155 (k78 : MHp → Nat → Int32 → Int32 → Int32 → Option (Int32 × MHp)) (h : MHp) (a0 : Nat) (v1 : Int32) (v2 : Int32) (v3 : Int32) : Option (Int32 × MHp) := mX16_mend_b160 k78 h a0 v1 v2 v3 1
def mX16_mend_b159 (k78 : MHp → Nat → Int32 → Int32 → Int32 → Option (Int32 × MHp)) (h : MHp) (a0 : Nat) (v1 : Int32) (v2 : Int32) (v3 : Int32) : Option (Int32 × MHp) := mX16_mend_b160 k78 h a0 v1 v2 v3 0
def mX16_mend_b292 (k245 : MHp → Nat → Int32 → Int32 → Int32 → Int32 → Int32 → Option (Int32 × MHp)) (h : MHp) (a0 : Nat) (v1 : Int32) (v2 : Int32) (v3 : Int32) (v4 : Int32) (v5 : Int32) : Option (Int32 × MHp) := k245 h a0 v1 v2 v3 v4 (v5 + 1)
def mX16_mend_b285 (k245 : MHp → Nat → Int32 → Int32 → Int32 → Int32 → Int32 → Option (Int32 × MHp)) (h : MHp) (a0 : Nat) (v1 : Int32) (v2 : Int32) (v5 : Int32) (v6 : Int32) : Option (Int32 × MHp) := mX16_mend_b292 k245 h a0 v1 v2 v5 v6 v5
def mX16_mend_b396 (k347 : MHp → Nat → Int32 → Int32 → Int32 → Int32 → Option (Int32 × MHp)) (h : MHp) (a0 : Nat) (v1 : Int32) (v2 : Int32) (v3 : Int32) (v6 : Int32) (t0 : Option Nat) (t1 : Int32) (t2 : Int32) : Option (Int32 × MHp) := (pAI 20 h t0 t1 t2).bind fun h15 => k347 h15 a0 v1 v2 v3 (v6 + 1)
def mX16_mend_l347 : Nat → MHp → Nat → Int32 → Int32 → Int32 → Int32 → Option (Int32 × MHp)
  | 0, _, _, _, _, _, _ => none
  | n + 1, h, a0, v1, v2, v3, v6 => (gR 17 4 h (some a0)).bind fun x16 => (gI 13 0 h x16).bind fun x17 => (if x17 ≤ v6 then (gR 17 26 h (some a0)).bind fun x18 => (pAI 20 h x18 v1 v2).bind fun h19 => (gR 17 25 h19 (some a0)).bind fun x20 => (gI 17 19 h19 (some a0)).bind fun x21 => (pAI 20 h19 x20 v1 x21).bind fun h22 => (pI 17 32 h22 (some a0) v3).bind fun h23 => (rcv 17 h23 (some a0)).bind fun b25 => (mX16_done h23 b25 v2).bind fun r24 => some (r24.1, r24.2) else (gR 17 21 h (some a0)).bind fun x26 => (if 0 ≤ v3 then (gI 17 19 h (some a0)).bind fun x27 => (rcv 17 h (some a0)).bind fun b29 => (mX16_valueOf h b29 v3 v6 x27 0).bind fun r28 => mX16_mend_b396 (mX16_mend_l347 n) h a0 v1 v2 v3 v6 x26 ((6 * v1) + v6) r28 else (gR 17 30 h (some a0)).bind fun x30 => (gAI 20 h x30 v6).bind fun x31 => mX16_mend_b396 (mX16_mend_l347 n) h a0 v1 v2 v3 v6 x26 ((6 * v1) + v6) x31))
def mX16_mend_l301 : Nat → MHp → Nat → Int32 → Int32 → Int32 → Int32 → Option (Int32 × MHp)
  | 0, _, _, _, _, _, _ => none
  | n + 1, h, a0, v1, v2, v3, v5 => (gR 17 4 h (some a0)).bind fun x34 => (gI 13 0 h x34).bind fun x35 => (if x35 ≤ v5 then (gR 17 30 h (some a0)).bind fun x36 => (rcv 17 h (some a0)).bind fun b38 => (mX16_isMended h b38 v2 x36).bind fun r37 => mX16_mend_l347 FUEL r37.2 a0 v1 v2 v3 0 else (gR 17 30 h (some a0)).bind fun x39 => (gR 17 29 h (some a0)).bind fun x40 => (gAI 20 h x40 v5).bind fun x41 => (pAI 20 h x39 v5 x41).bind fun h42 => mX16_mend_l301 n h42 a0 v1 v2 v3 (v5 + 1))
def mX16_mend_l245 : Nat → MHp → Nat → Int32 → Int32 → Int32 → Int32 → Int32 → Option (Int32 × MHp)
  | 0, _, _, _, _, _, _, _ => none
  | n + 1, h, a0, v1, v2, v3, v4, v5 => (gI 17 18 h (some a0)).bind fun x44 => (if x44 ≤ v5 then mX16_mend_l301 FUEL h a0 v1 v2 v3 0 else (rcv 17 h (some a0)).bind fun b46 => (mX16_unlike h b46 v1 v5 v2 v2).bind fun r45 => (if r45.1 = (-1) then mX16_mend_b292 (mX16_mend_l245 n) r45.2 a0 v1 v2 v3 v4 v5 else (if v3 < 0 then mX16_mend_b285 (mX16_mend_l245 n) r45.2 a0 v1 v2 v5 r45.1 else (if r45.1 < v4 then mX16_mend_b285 (mX16_mend_l245 n) r45.2 a0 v1 v2 v5 r45.1 else mX16_mend_b292 (mX16_mend_l245 n) r45.2 a0 v1 v2 v3 v4 v5))))
def mX16_mend_l78 : Nat → MHp → Nat → Int32 → Int32 → Int32 → Option (Int32 × MHp)
  | 0, _, _, _, _, _ => none
  | n + 1, h, a0, v1, v2, v3 => (gR 17 4 h (some a0)).bind fun x51 => (gI 13 0 h x51).bind fun x52 => (if (1 <<< (x52 &&& 31)) ≤ v3 then (if v2 = 0 then (rcv 17 h (some a0)).bind fun b54 => (mX16_refused h b54 6).bind fun r53 => some (r53.1, r53.2) else mX16_mend_l245 FUEL h a0 v1 v2 (-2) 0 0) else (rcv 17 h (some a0)).bind fun b57 => (mX16_costOf h b57 v3).bind fun r56 => (rcv 17 h (some a0)).bind fun b59 => (mX16_costOf h b59 v2).bind fun r58 => (mX16_bits h v3).bind fun r60 => (mX16_bits h v2).bind fun r61 => (if v2 = 0 then mX16_mend_b155 (mX16_mend_l78 n) h a0 v1 v2 v3 else (if (r56 - r58) < 0 then mX16_mend_b155 (mX16_mend_l78 n) h a0 v1 v2 v3 else (if (r56 - r58) = 0 then (if (r60 - r61) < 0 then mX16_mend_b155 (mX16_mend_l78 n) h a0 v1 v2 v3 else (if (r60 - r61) = 0 then (if ((v3 &&& (v3 ^^^ v2)) &&& (-(v3 ^^^ v2))) = 0 then mX16_mend_b159 (mX16_mend_l78 n) h a0 v1 v2 v3 else mX16_mend_b155 (mX16_mend_l78 n) h a0 v1 v2 v3) else mX16_mend_b159 (mX16_mend_l78 n) h a0 v1 v2 v3)) else mX16_mend_b159 (mX16_mend_l78 n) h a0 v1 v2 v3))))
def mX16_mend (h : MHp) (a0 : Nat) (a1 : Int32) : Option (Int32 × MHp) := (pI 17 0 h (some a0) 0).bind fun h69 => (rcv 17 h69 (some a0)).bind fun b71 => (mX16_isRow h69 b71 a1).bind fun r70 => (if r70 = 0 then (rcv 17 h69 (some a0)).bind fun b88 => (mX16_refused h69 b88 1).bind fun r87 => some (r87.1, r87.2) else (gI 17 19 h69 (some a0)).bind fun x72 => (gR 17 29 h69 (some a0)).bind fun x73 => (rcv 17 h69 (some a0)).bind fun b75 => (mX16_loads h69 b75 a1 x72 0 x73).bind fun r74 => (gR 17 4 r74 (some a0)).bind fun x76 => (gR 17 29 r74 (some a0)).bind fun x77 => (rcv 13 r74 x76).bind fun b79 => (mX12_broken r74 b79 x77).bind fun r78 => (if r78 = (-1) then mX16_mend_b68 r74 a0 else (gR 17 24 r74 (some a0)).bind fun x80 => (gAI 20 r74 x80 a1).bind fun x81 => (if x81 = (-1) then (gR 17 25 r74 (some a0)).bind fun x82 => (gAI 20 r74 x82 a1).bind fun x83 => (if x83 = (-1) then mX16_mend_l78 FUEL r74 a0 a1 0 1 else mX16_mend_b68 r74 a0) else mX16_mend_b68 r74 a0)))
set_option maxRecDepth 100000 in
set_option maxHeartbeats 4000000 in
theorem c_X16_mend (l : Launch) (G : Env0) (h : MHp) (a0 : Nat) (a1 : Int32) (res : Int32 × MHp) (hh : mX16_mend h a0 a1 = some res) : MG l yX16_mend cX16_mend 9 (some .int) 3 77 0 0 G h [.ref a0, .int a1] (some (.int res.1)) (res.2) := by
  refine MG_of (own := RX16) (plainFor_of_name (by decide)) rfl (Nat.le_of_ble_eq_true rfl) ?_
  intro p e s m args below meth c Q ls hQ C X hin hm hs hl hr
  have hl : lv_has ls 9 [(0, va_rf (some a0)), (1, .int a1)] := hl
  have B68 : ∀ (h : MHp) (H : Heap) (locs : List Loc) (ls : Array Slot) (a0 : Nat) , mHp (gD G) (gC G) (gB G) h H → va_S (fun q => gB G ≤ q) s.heap H locs → lv_has ls 9 [(0, va_rf (some a0))] → mX16_mend_b68 h a0 = some res → W p l e ({ frames := 3, cells := 0, slots := 0, locals := 77 }) s m args below meth c H locs 0 0 Q (F0 m 68 ls []) := by
    intro h H locs ls a0 hm hs hl hh
    unfold mX16_mend_b68 at hh
    refine r_aload_n C.1 C.2.1 dX16_mend_68 rfl (lv_at hl 0 rfl) ?_
    refine lv_iconst (v := 5) C.1 C.2.1 dX16_mend_69 (by decide) ?_
    refine r_cV C X hm hs mlX16_293 mvX16_293 hh (vv := fun r => some (.int r.1)) (hp := fun r => r.2) (fun b r hg => c_X16_refused l G h b _ r hg) rfl rfl (Nat.le_of_ble_eq_true rfl) (Nat.le_of_ble_eq_true rfl) (Nat.le_of_ble_eq_true rfl) hl.1 dX16_mend_70 (fun b2 r1 H locs hgr1 hh hm hs => ?_)
    refine W.eq (g2 := F0 m 73 ls [.int r1.1]) rfl ?_
    exact r_iretW hQ C hr hm hs hh dX16_mend_73
  have B219 : ∀ (k78 : MHp → Nat → Int32 → Int32 → Int32 → Option (Int32 × MHp)), (∀ (h : MHp) (H : Heap) (locs : List Loc) (ls : Array Slot) (a0 : Nat) (v1 : Int32) (v2 : Int32) (v3 : Int32) , mHp (gD G) (gC G) (gB G) h H → va_S (fun q => gB G ≤ q) s.heap H locs → lv_has ls 9 [(0, va_rf (some a0)), (1, .int v1), (2, .int v2), (3, .int v3)] → k78 h a0 v1 v2 v3 = some res → W p l e ({ frames := 3, cells := 0, slots := 0, locals := 77 }) s m args below meth c H locs 0 0 Q (F0 m 78 ls [])) → ∀ (h : MHp) (H : Heap) (locs : List Loc) (ls : Array Slot) (a0 : Nat) (v1 : Int32) (v2 : Int32) (v3 : Int32) , mHp (gD G) (gC G) (gB G) h H → va_S (fun q => gB G ≤ q) s.heap H locs → lv_has ls 9 [(0, va_rf (some a0)), (1, .int v1), (2, .int v2), (3, .int v3)] → mX16_mend_b219 k78 h a0 v1 v2 v3 = some res → W p l e ({ frames := 3, cells := 0, slots := 0, locals := 77 }) s m args below meth c H locs 0 0 Q (F0 m 219 ls []) := by
    intro k78 hk78 h H locs ls a0 v1 v2 v3 hm hs hl hh
    unfold mX16_mend_b219 at hh
    refine lv_iinc (v := (v3 + 1)) (lv' := [(3, .int (v3 + 1)), (0, va_rf (some a0)), (1, .int v1), (2, .int v2)]) C.1 C.2.1 dX16_mend_219 hl (k := 3) rfl rfl (by decide) rfl (fun ls hl => ?_)
    refine lv_goto (tgt := 78) C.1 C.2.1 dX16_mend_222 (by decide) ?_
    exact hk78 _ _ _ _ _ _ _ _  hm hs (lv_sub hl [1, 2, 3, 0] rfl) hh
  have B173 : ∀ (k78 : MHp → Nat → Int32 → Int32 → Int32 → Option (Int32 × MHp)), (∀ (h : MHp) (H : Heap) (locs : List Loc) (ls : Array Slot) (a0 : Nat) (v1 : Int32) (v2 : Int32) (v3 : Int32) , mHp (gD G) (gC G) (gB G) h H → va_S (fun q => gB G ≤ q) s.heap H locs → lv_has ls 9 [(0, va_rf (some a0)), (1, .int v1), (2, .int v2), (3, .int v3)] → k78 h a0 v1 v2 v3 = some res → W p l e ({ frames := 3, cells := 0, slots := 0, locals := 77 }) s m args below meth c H locs 0 0 Q (F0 m 78 ls [])) → ∀ n : Nat, ∀ (h : MHp) (H : Heap) (locs : List Loc) (ls : Array Slot) (a0 : Nat) (v1 : Int32) (v2 : Int32) (v3 : Int32) (v8 : Int32) , mHp (gD G) (gC G) (gB G) h H → va_S (fun q => gB G ≤ q) s.heap H locs → lv_has ls 9 [(0, va_rf (some a0)), (1, .int v1), (2, .int v2), (3, .int v3), (8, .int v8)] → mX16_mend_l173 k78 n h a0 v1 v2 v3 v8 = some res → W p l e ({ frames := 3, cells := 0, slots := 0, locals := 77 }) s m args below meth c H locs 0 0 Q (F0 m 173 ls []) := by
    intro k78 hk78 n
    induction n with
    | zero => intro h H locs ls a0 v1 v2 v3 v8 hm hs hl hh; cases hh
    | succ n ih =>
      intro h H locs ls a0 v1 v2 v3 v8 hm hs hl hh
      unfold mX16_mend_l173 at hh
      refine lv_iload C.1 C.2.1 dX16_mend_173 (lv_at hl 4 rfl) ?_
      refine r_aload_n C.1 C.2.1 dX16_mend_175 rfl (lv_at hl 0 rfl) ?_
      refine r_getR C hm flX16_274 dX16_mend_176 hh (fun x3 _ hh => ?_)
      refine r_getI C hm flX16_218 dX16_mend_179 hh (fun x4 _ hh => ?_)
      refine lv_icmp_ge (tgt := 205) C.1 C.2.1 dX16_mend_182 (by decide) (fun c13 => ?_) (fun c13 => ?_)
      · rw [if_pos c13] at hh
        refine r_aload_n C.1 C.2.1 dX16_mend_205 rfl (lv_at hl 0 rfl) ?_
        refine lv_iload_n C.1 C.2.1 dX16_mend_206 rfl (lv_at hl 3 rfl) ?_
        refine r_aload_n C.1 C.2.1 dX16_mend_207 rfl (lv_at hl 0 rfl) ?_
        refine r_getR C hm flX16_61 dX16_mend_208 hh (fun x5 _ hh => ?_)
        refine r_cV C X hm hs mlX16_372 mvX16_372 hh (vv := fun r => some (.int r.1)) (hp := fun r => r.2) (fun b r hg => c_X16_isMended l G h b _ _ r hg) rfl rfl (Nat.le_of_ble_eq_true rfl) (Nat.le_of_ble_eq_true rfl) (Nat.le_of_ble_eq_true rfl) hl.1 dX16_mend_211 (fun b7 r6 H locs hgr6 hh hm hs => ?_)
        refine W.eq (g2 := F0 m 214 ls [.int r6.1]) rfl ?_
        refine lv_if_eq (tgt := 219) C.1 C.2.1 dX16_mend_214 (by decide) (fun c8 => ?_) (fun c8 => ?_)
        · rw [if_pos c8] at hh
          exact B219 _ hk78 _ _ _ _ _ _ _ _  hm hs (lv_sub hl [0, 1, 2, 3] rfl) hh
        · rw [if_neg c8] at hh
          refine lv_iload_n C.1 C.2.1 dX16_mend_217 rfl (lv_at hl 3 rfl) ?_
          refine lv_istore_n (i := 2) (lv' := [(2, .int v3), (0, va_rf (some a0)), (1, .int v1), (3, .int v3), (8, .int v8)]) C.1 C.2.1 dX16_mend_218 rfl hl (by decide) rfl (fun ls hl => ?_)
          exact B219 _ hk78 _ _ _ _ _ _ _ _  hm hs (lv_sub hl [1, 2, 0, 3] rfl) hh
      · rw [if_neg c13] at hh
        refine r_aload_n C.1 C.2.1 dX16_mend_185 rfl (lv_at hl 0 rfl) ?_
        refine r_getR C hm flX16_61 dX16_mend_186 hh (fun x9 _ hh => ?_)
        refine lv_iload C.1 C.2.1 dX16_mend_189 (lv_at hl 4 rfl) ?_
        refine r_aload_n C.1 C.2.1 dX16_mend_191 rfl (lv_at hl 0 rfl) ?_
        refine r_getR C hm flX16_58 dX16_mend_192 hh (fun x10 _ hh => ?_)
        refine lv_iload C.1 C.2.1 dX16_mend_195 (lv_at hl 4 rfl) ?_
        refine r_ald C hm dX16_mend_197 hh (fun x11 _ hh => ?_)
        refine r_ast C hm hs dX16_mend_198 hh (fun h12 H locs _ hh hm hs => ?_)
        refine lv_iinc (v := (v8 + 1)) (lv' := [(8, .int (v8 + 1)), (0, va_rf (some a0)), (1, .int v1), (2, .int v2), (3, .int v3)]) C.1 C.2.1 dX16_mend_199 hl (k := 4) rfl rfl (by decide) rfl (fun ls hl => ?_)
        refine lv_goto (tgt := 173) C.1 C.2.1 dX16_mend_202 (by decide) ?_
        exact ih _ _ _ _ _ _ _ _ _  hm hs (lv_sub hl [1, 2, 3, 4, 0] rfl) hh
  have B160 : ∀ (k78 : MHp → Nat → Int32 → Int32 → Int32 → Option (Int32 × MHp)), (∀ (h : MHp) (H : Heap) (locs : List Loc) (ls : Array Slot) (a0 : Nat) (v1 : Int32) (v2 : Int32) (v3 : Int32) , mHp (gD G) (gC G) (gB G) h H → va_S (fun q => gB G ≤ q) s.heap H locs → lv_has ls 9 [(0, va_rf (some a0)), (1, .int v1), (2, .int v2), (3, .int v3)] → k78 h a0 v1 v2 v3 = some res → W p l e ({ frames := 3, cells := 0, slots := 0, locals := 77 }) s m args below meth c H locs 0 0 Q (F0 m 78 ls [])) → ∀ (h : MHp) (H : Heap) (locs : List Loc) (ls : Array Slot) (a0 : Nat) (v1 : Int32) (v2 : Int32) (v3 : Int32) (t0 : Int32) , mHp (gD G) (gC G) (gB G) h H → va_S (fun q => gB G ≤ q) s.heap H locs → lv_has ls 9 [(0, va_rf (some a0)), (1, .int v1), (2, .int v2), (3, .int v3)] → mX16_mend_b160 k78 h a0 v1 v2 v3 t0 = some res → W p l e ({ frames := 3, cells := 0, slots := 0, locals := 77 }) s m args below meth c H locs 0 0 Q (F0 m 160 ls [.int t0]) := by
    intro k78 hk78 h H locs ls a0 v1 v2 v3 t0 hm hs hl hh
    unfold mX16_mend_b160 at hh
    refine lv_istore (i := 7) (lv' := [(7, .int t0), (0, va_rf (some a0)), (1, .int v1), (2, .int v2), (3, .int v3)]) C.1 C.2.1 dX16_mend_160 hl (by decide) rfl (fun ls hl => ?_)
    refine lv_iload C.1 C.2.1 dX16_mend_162 (lv_at hl 0 rfl) ?_
    refine lv_if_ne (tgt := 170) C.1 C.2.1 dX16_mend_164 (by decide) (fun c14 => ?_) (fun c14 => ?_)
    · rw [if_neg c14] at hh
      refine lv_iconst (v := 0) C.1 C.2.1 dX16_mend_170 (by decide) ?_
      refine lv_istore (i := 8) (lv' := [(8, .int 0), (7, .int t0), (0, va_rf (some a0)), (1, .int v1), (2, .int v2), (3, .int v3)]) C.1 C.2.1 dX16_mend_171 hl (by decide) rfl (fun ls hl => ?_)
      exact B173 _ hk78 FUEL _ _ _ _ _ _ _ _ _  hm hs (lv_sub hl [2, 3, 4, 5, 0] rfl) hh
    · rw [if_pos c14] at hh
      refine lv_goto (tgt := 219) C.1 C.2.1 dX16_mend_167 (by decide) ?_
      exact B219 _ hk78 _ _ _ _ _ _ _ _  hm hs (lv_sub hl [1, 2, 3, 4] rfl) hh
  have B155 : ∀ (k78 : MHp → Nat → Int32 → Int32 → Int32 → Option (Int32 × MHp)), (∀ (h : MHp) (H : Heap) (locs : List Loc) (ls : Array Slot) (a0 : Nat) (v1 : Int32) (v2 : Int32) (v3 : Int32) , mHp (gD G) (gC G) (gB G) h H → va_S (fun q => gB G ≤ q) s.heap H locs → lv_has ls 9 [(0, va_rf (some a0)), (1, .int v1), (2, .int v2), (3, .int v3)] → k78 h a0 v1 v2 v3 = some res → W p l e ({ frames := 3, cells := 0, slots := 0, locals := 77 }) s m args below meth c H locs 0 0 Q (F0 m 78 ls [])) → ∀ (h : MHp) (H : Heap) (locs : List Loc) (ls : Array Slot) (a0 : Nat) (v1 : Int32) (v2 : Int32) (v3 : Int32) , mHp (gD G) (gC G) (gB G) h H → va_S (fun q => gB G ≤ q) s.heap H locs → lv_has ls 9 [(0, va_rf (some a0)), (1, .int v1), (2, .int v2), (3, .int v3)] → mX16_mend_b155 k78 h a0 v1 v2 v3 = some res → W p l e ({ frames := 3, cells := 0, slots := 0, locals := 77 }) s m args below meth c H locs 0 0 Q (F0 m 155 ls []) := by
    intro k78 hk78 h H locs ls a0 v1 v2 v3 hm hs hl hh
    unfold mX16_mend_b155 at hh
    refine lv_iconst (v := 1) C.1 C.2.1 dX16_mend_155 (by decide) ?_
    refine lv_goto (tgt := 160) C.1 C.2.1 dX16_mend_156 (by decide) ?_
    exact B160 _ hk78 _ _ _ _ _ _ _ _ _  hm hs (lv_sub hl [0, 1, 2, 3] rfl) hh
  have B159 : ∀ (k78 : MHp → Nat → Int32 → Int32 → Int32 → Option (Int32 × MHp)), (∀ (h : MHp) (H : Heap) (locs : List Loc) (ls : Array Slot) (a0 : Nat) (v1 : Int32) (v2 : Int32) (v3 : Int32) , mHp (gD G) (gC G) (gB G) h H → va_S (fun q => gB G ≤ q) s.heap H locs → lv_has ls 9 [(0, va_rf (some a0)), (1, .int v1), (2, .int v2), (3, .int v3)] → k78 h a0 v1 v2 v3 = some res → W p l e ({ frames := 3, cells := 0, slots := 0, locals := 77 }) s m args below meth c H locs 0 0 Q (F0 m 78 ls [])) → ∀ (h : MHp) (H : Heap) (locs : List Loc) (ls : Array Slot) (a0 : Nat) (v1 : Int32) (v2 : Int32) (v3 : Int32) , mHp (gD G) (gC G) (gB G) h H → va_S (fun q => gB G ≤ q) s.heap H locs → lv_has ls 9 [(0, va_rf (some a0)), (1, .int v1), (2, .int v2), (3, .int v3)] → mX16_mend_b159 k78 h a0 v1 v2 v3 = some res → W p l e ({ frames := 3, cells := 0, slots := 0, locals := 77 }) s m args below meth c H locs 0 0 Q (F0 m 159 ls []) := by
    intro k78 hk78 h H locs ls a0 v1 v2 v3 hm hs hl hh
    unfold mX16_mend_b159 at hh
    refine lv_iconst (v := 0) C.1 C.2.1 dX16_mend_159 (by decide) ?_
    exact B160 _ hk78 _ _ _ _ _ _ _ _ _  hm hs (lv_sub hl [0, 1, 2, 3] rfl) hh
  have B292 : ∀ (k245 : MHp → Nat → Int32 → Int32 → Int32 → Int32 → Int32 → Option (Int32 × MHp)), (∀ (h : MHp) (H : Heap) (locs : List Loc) (ls : Array Slot) (a0 : Nat) (v1 : Int32) (v2 : Int32) (v3 : Int32) (v4 : Int32) (v5 : Int32) , mHp (gD G) (gC G) (gB G) h H → va_S (fun q => gB G ≤ q) s.heap H locs → lv_has ls 9 [(0, va_rf (some a0)), (1, .int v1), (2, .int v2), (3, .int v3), (4, .int v4), (5, .int v5)] → k245 h a0 v1 v2 v3 v4 v5 = some res → W p l e ({ frames := 3, cells := 0, slots := 0, locals := 77 }) s m args below meth c H locs 0 0 Q (F0 m 245 ls [])) → ∀ (h : MHp) (H : Heap) (locs : List Loc) (ls : Array Slot) (a0 : Nat) (v1 : Int32) (v2 : Int32) (v3 : Int32) (v4 : Int32) (v5 : Int32) , mHp (gD G) (gC G) (gB G) h H → va_S (fun q => gB G ≤ q) s.heap H locs → lv_has ls 9 [(0, va_rf (some a0)), (1, .int v1), (2, .int v2), (3, .int v3), (4, .int v4), (5, .int v5)] → mX16_mend_b292 k245 h a0 v1 v2 v3 v4 v5 = some res → W p l e ({ frames := 3, cells := 0, slots := 0, locals := 77 }) s m args below meth c H locs 0 0 Q (F0 m 292 ls []) := by
    intro k245 hk245 h H locs ls a0 v1 v2 v3 v4 v5 hm hs hl hh
    unfold mX16_mend_b292 at hh
    refine lv_iinc (v := (v5 + 1)) (lv' := [(5, .int (v5 + 1)), (0, va_rf (some a0)), (1, .int v1), (2, .int v2), (3, .int v3), (4, .int v4)]) C.1 C.2.1 dX16_mend_292 hl (k := 5) rfl rfl (by decide) rfl (fun ls hl => ?_)
    refine lv_goto (tgt := 245) C.1 C.2.1 dX16_mend_295 (by decide) ?_
    exact hk245 _ _ _ _ _ _ _ _ _ _  hm hs (lv_sub hl [1, 2, 3, 4, 5, 0] rfl) hh
  have B285 : ∀ (k245 : MHp → Nat → Int32 → Int32 → Int32 → Int32 → Int32 → Option (Int32 × MHp)), (∀ (h : MHp) (H : Heap) (locs : List Loc) (ls : Array Slot) (a0 : Nat) (v1 : Int32) (v2 : Int32) (v3 : Int32) (v4 : Int32) (v5 : Int32) , mHp (gD G) (gC G) (gB G) h H → va_S (fun q => gB G ≤ q) s.heap H locs → lv_has ls 9 [(0, va_rf (some a0)), (1, .int v1), (2, .int v2), (3, .int v3), (4, .int v4), (5, .int v5)] → k245 h a0 v1 v2 v3 v4 v5 = some res → W p l e ({ frames := 3, cells := 0, slots := 0, locals := 77 }) s m args below meth c H locs 0 0 Q (F0 m 245 ls [])) → ∀ (h : MHp) (H : Heap) (locs : List Loc) (ls : Array Slot) (a0 : Nat) (v1 : Int32) (v2 : Int32) (v5 : Int32) (v6 : Int32) , mHp (gD G) (gC G) (gB G) h H → va_S (fun q => gB G ≤ q) s.heap H locs → lv_has ls 9 [(0, va_rf (some a0)), (1, .int v1), (2, .int v2), (5, .int v5), (6, .int v6)] → mX16_mend_b285 k245 h a0 v1 v2 v5 v6 = some res → W p l e ({ frames := 3, cells := 0, slots := 0, locals := 77 }) s m args below meth c H locs 0 0 Q (F0 m 285 ls []) := by
    intro k245 hk245 h H locs ls a0 v1 v2 v5 v6 hm hs hl hh
    unfold mX16_mend_b285 at hh
    refine lv_iload C.1 C.2.1 dX16_mend_285 (lv_at hl 3 rfl) ?_
    refine lv_istore_n (i := 3) (lv' := [(3, .int v5), (0, va_rf (some a0)), (1, .int v1), (2, .int v2), (5, .int v5), (6, .int v6)]) C.1 C.2.1 dX16_mend_287 rfl hl (by decide) rfl (fun ls hl => ?_)
    refine lv_iload C.1 C.2.1 dX16_mend_288 (lv_at hl 5 rfl) ?_
    refine lv_istore (i := 4) (lv' := [(4, .int v6), (3, .int v5), (0, va_rf (some a0)), (1, .int v1), (2, .int v2), (5, .int v5), (6, .int v6)]) C.1 C.2.1 dX16_mend_290 hl (by decide) rfl (fun ls hl => ?_)
    exact B292 _ hk245 _ _ _ _ _ _ _ _ _ _  hm hs (lv_sub hl [2, 3, 4, 1, 0, 5] rfl) hh
  have B396 : ∀ (k347 : MHp → Nat → Int32 → Int32 → Int32 → Int32 → Option (Int32 × MHp)), (∀ (h : MHp) (H : Heap) (locs : List Loc) (ls : Array Slot) (a0 : Nat) (v1 : Int32) (v2 : Int32) (v3 : Int32) (v6 : Int32) , mHp (gD G) (gC G) (gB G) h H → va_S (fun q => gB G ≤ q) s.heap H locs → lv_has ls 9 [(0, va_rf (some a0)), (1, .int v1), (2, .int v2), (3, .int v3), (6, .int v6)] → k347 h a0 v1 v2 v3 v6 = some res → W p l e ({ frames := 3, cells := 0, slots := 0, locals := 77 }) s m args below meth c H locs 0 0 Q (F0 m 347 ls [])) → ∀ (h : MHp) (H : Heap) (locs : List Loc) (ls : Array Slot) (a0 : Nat) (v1 : Int32) (v2 : Int32) (v3 : Int32) (v6 : Int32) (t0 : Option Nat) (t1 : Int32) (t2 : Int32) , mHp (gD G) (gC G) (gB G) h H → va_S (fun q => gB G ≤ q) s.heap H locs → lv_has ls 9 [(0, va_rf (some a0)), (1, .int v1), (2, .int v2), (3, .int v3), (6, .int v6)] → mX16_mend_b396 k347 h a0 v1 v2 v3 v6 t0 t1 t2 = some res → W p l e ({ frames := 3, cells := 0, slots := 0, locals := 77 }) s m args below meth c H locs 0 0 Q (F0 m 396 ls [.int t2, .int t1, va_rf t0]) := by
    intro k347 hk347 h H locs ls a0 v1 v2 v3 v6 t0 t1 t2 hm hs hl hh
    unfold mX16_mend_b396 at hh
    refine r_ast C hm hs dX16_mend_396 hh (fun h15 H locs _ hh hm hs => ?_)
    refine lv_iinc (v := (v6 + 1)) (lv' := [(6, .int (v6 + 1)), (0, va_rf (some a0)), (1, .int v1), (2, .int v2), (3, .int v3)]) C.1 C.2.1 dX16_mend_397 hl (k := 4) rfl rfl (by decide) rfl (fun ls hl => ?_)
    refine lv_goto (tgt := 347) C.1 C.2.1 dX16_mend_400 (by decide) ?_
    exact hk347 _ _ _ _ _ _ _ _ _  hm hs (lv_sub hl [1, 2, 3, 4, 0] rfl) hh
  have B347 : ∀ n : Nat, ∀ (h : MHp) (H : Heap) (locs : List Loc) (ls : Array Slot) (a0 : Nat) (v1 : Int32) (v2 : Int32) (v3 : Int32) (v6 : Int32) , mHp (gD G) (gC G) (gB G) h H → va_S (fun q => gB G ≤ q) s.heap H locs → lv_has ls 9 [(0, va_rf (some a0)), (1, .int v1), (2, .int v2), (3, .int v3), (6, .int v6)] → mX16_mend_l347 n h a0 v1 v2 v3 v6 = some res → W p l e ({ frames := 3, cells := 0, slots := 0, locals := 77 }) s m args below meth c H locs 0 0 Q (F0 m 347 ls []) := by
    intro n
    induction n with
    | zero => intro h H locs ls a0 v1 v2 v3 v6 hm hs hl hh; cases hh
    | succ n ih =>
      intro h H locs ls a0 v1 v2 v3 v6 hm hs hl hh
      unfold mX16_mend_l347 at hh
      refine lv_iload C.1 C.2.1 dX16_mend_347 (lv_at hl 4 rfl) ?_
      refine r_aload_n C.1 C.2.1 dX16_mend_349 rfl (lv_at hl 0 rfl) ?_
      refine r_getR C hm flX16_274 dX16_mend_350 hh (fun x16 _ hh => ?_)
      refine r_getI C hm flX16_218 dX16_mend_353 hh (fun x17 _ hh => ?_)
      refine lv_icmp_ge (tgt := 403) C.1 C.2.1 dX16_mend_356 (by decide) (fun c33 => ?_) (fun c33 => ?_)
      · rw [if_pos c33] at hh
        refine r_aload_n C.1 C.2.1 dX16_mend_403 rfl (lv_at hl 0 rfl) ?_
        refine r_getR C hm flX16_49 dX16_mend_404 hh (fun x18 _ hh => ?_)
        refine lv_iload_n C.1 C.2.1 dX16_mend_407 rfl (lv_at hl 1 rfl) ?_
        refine lv_iload_n C.1 C.2.1 dX16_mend_408 rfl (lv_at hl 2 rfl) ?_
        refine r_ast C hm hs dX16_mend_409 hh (fun h19 H locs _ hh hm hs => ?_)
        refine r_aload_n C.1 C.2.1 dX16_mend_410 rfl (lv_at hl 0 rfl) ?_
        refine r_getR C hm flX16_46 dX16_mend_411 hh (fun x20 _ hh => ?_)
        refine lv_iload_n C.1 C.2.1 dX16_mend_414 rfl (lv_at hl 1 rfl) ?_
        refine r_aload_n C.1 C.2.1 dX16_mend_415 rfl (lv_at hl 0 rfl) ?_
        refine r_getI C hm flX16_314 dX16_mend_416 hh (fun x21 _ hh => ?_)
        refine r_ast C hm hs dX16_mend_419 hh (fun h22 H locs _ hh hm hs => ?_)
        refine r_aload_n C.1 C.2.1 dX16_mend_420 rfl (lv_at hl 0 rfl) ?_
        refine lv_iload_n C.1 C.2.1 dX16_mend_421 rfl (lv_at hl 3 rfl) ?_
        refine r_putI C hm hs flX16_67 (Or.inl fm_17_32) dX16_mend_422 hh (fun h23 H locs _ hh hm hs => ?_)
        refine r_aload_n C.1 C.2.1 dX16_mend_425 rfl (lv_at hl 0 rfl) ?_
        refine lv_iload_n C.1 C.2.1 dX16_mend_426 rfl (lv_at hl 2 rfl) ?_
        refine r_cV C X hm hs mlX16_323 mvX16_323 hh (vv := fun r => some (.int r.1)) (hp := fun r => r.2) (fun b r hg => c_X16_done l G h23 b _ r hg) rfl rfl (Nat.le_of_ble_eq_true rfl) (Nat.le_of_ble_eq_true rfl) (Nat.le_of_ble_eq_true rfl) hl.1 dX16_mend_427 (fun b25 r24 H locs hgr24 hh hm hs => ?_)
        refine W.eq (g2 := F0 m 430 ls [.int r24.1]) rfl ?_
        exact r_iretW hQ C hr hm hs hh dX16_mend_430
      · rw [if_neg c33] at hh
        refine r_aload_n C.1 C.2.1 dX16_mend_359 rfl (lv_at hl 0 rfl) ?_
        refine r_getR C hm flX16_34 dX16_mend_360 hh (fun x26 _ hh => ?_)
        refine lv_bipush (v := 6) C.1 C.2.1 dX16_mend_363 (by decide) ?_
        refine lv_iload_n C.1 C.2.1 dX16_mend_365 rfl (lv_at hl 1 rfl) ?_
        refine lv_imul C.1 C.2.1 dX16_mend_366 ?_
        refine lv_iload C.1 C.2.1 dX16_mend_367 (lv_at hl 4 rfl) ?_
        refine lv_iadd C.1 C.2.1 dX16_mend_369 ?_
        refine lv_iload_n C.1 C.2.1 dX16_mend_370 rfl (lv_at hl 3 rfl) ?_
        refine lv_if_ge (tgt := 384) C.1 C.2.1 dX16_mend_371 (by decide) (fun c32 => ?_) (fun c32 => ?_)
        · rw [if_pos c32] at hh
          refine r_aload_n C.1 C.2.1 dX16_mend_384 rfl (lv_at hl 0 rfl) ?_
          refine lv_iload_n C.1 C.2.1 dX16_mend_385 rfl (lv_at hl 3 rfl) ?_
          refine lv_iload C.1 C.2.1 dX16_mend_386 (lv_at hl 4 rfl) ?_
          refine r_aload_n C.1 C.2.1 dX16_mend_388 rfl (lv_at hl 0 rfl) ?_
          refine r_getI C hm flX16_314 dX16_mend_389 hh (fun x27 _ hh => ?_)
          refine lv_iconst (v := 0) C.1 C.2.1 dX16_mend_392 (by decide) ?_
          refine r_cV C X hm hs mlX16_345 mvX16_345 hh (vv := fun r => some (.int r)) (hp := fun r => h) (fun b r hg => c_X16_valueOf l G h b _ _ _ _ r hg) rfl rfl (by simp [va_cat, vc_i, vc_l, vc_r]) (Nat.le_of_ble_eq_true rfl) (Nat.le_of_ble_eq_true rfl) hl.1 dX16_mend_393 (fun b29 r28 H locs hgr28 hh hm hs => ?_)
          refine W.eq (g2 := F0 m 396 ls [.int r28, .int ((6 * v1) + v6), va_rf x26]) rfl ?_
          exact B396 _ ih _ _ _ _ _ _ _ _ _ _ _ _  hm hs (lv_sub hl [0, 1, 2, 3, 4] rfl) hh
        · rw [if_neg c32] at hh
          refine r_aload_n C.1 C.2.1 dX16_mend_374 rfl (lv_at hl 0 rfl) ?_
          refine r_getR C hm flX16_61 dX16_mend_375 hh (fun x30 _ hh => ?_)
          refine lv_iload C.1 C.2.1 dX16_mend_378 (lv_at hl 4 rfl) ?_
          refine r_ald C hm dX16_mend_380 hh (fun x31 _ hh => ?_)
          refine lv_goto (tgt := 396) C.1 C.2.1 dX16_mend_381 (by decide) ?_
          exact B396 _ ih _ _ _ _ _ _ _ _ _ _ _ _  hm hs (lv_sub hl [0, 1, 2, 3, 4] rfl) hh
  have B301 : ∀ n : Nat, ∀ (h : MHp) (H : Heap) (locs : List Loc) (ls : Array Slot) (a0 : Nat) (v1 : Int32) (v2 : Int32) (v3 : Int32) (v5 : Int32) , mHp (gD G) (gC G) (gB G) h H → va_S (fun q => gB G ≤ q) s.heap H locs → lv_has ls 9 [(0, va_rf (some a0)), (1, .int v1), (2, .int v2), (3, .int v3), (5, .int v5)] → mX16_mend_l301 n h a0 v1 v2 v3 v5 = some res → W p l e ({ frames := 3, cells := 0, slots := 0, locals := 77 }) s m args below meth c H locs 0 0 Q (F0 m 301 ls []) := by
    intro n
    induction n with
    | zero => intro h H locs ls a0 v1 v2 v3 v5 hm hs hl hh; cases hh
    | succ n ih =>
      intro h H locs ls a0 v1 v2 v3 v5 hm hs hl hh
      unfold mX16_mend_l301 at hh
      refine lv_iload C.1 C.2.1 dX16_mend_301 (lv_at hl 4 rfl) ?_
      refine r_aload_n C.1 C.2.1 dX16_mend_303 rfl (lv_at hl 0 rfl) ?_
      refine r_getR C hm flX16_274 dX16_mend_304 hh (fun x34 _ hh => ?_)
      refine r_getI C hm flX16_218 dX16_mend_307 hh (fun x35 _ hh => ?_)
      refine lv_icmp_ge (tgt := 333) C.1 C.2.1 dX16_mend_310 (by decide) (fun c43 => ?_) (fun c43 => ?_)
      · rw [if_pos c43] at hh
        refine r_aload_n C.1 C.2.1 dX16_mend_333 rfl (lv_at hl 0 rfl) ?_
        refine lv_iload_n C.1 C.2.1 dX16_mend_334 rfl (lv_at hl 2 rfl) ?_
        refine r_aload_n C.1 C.2.1 dX16_mend_335 rfl (lv_at hl 0 rfl) ?_
        refine r_getR C hm flX16_61 dX16_mend_336 hh (fun x36 _ hh => ?_)
        refine r_cV C X hm hs mlX16_372 mvX16_372 hh (vv := fun r => some (.int r.1)) (hp := fun r => r.2) (fun b r hg => c_X16_isMended l G h b _ _ r hg) rfl rfl (Nat.le_of_ble_eq_true rfl) (Nat.le_of_ble_eq_true rfl) (Nat.le_of_ble_eq_true rfl) hl.1 dX16_mend_339 (fun b38 r37 H locs hgr37 hh hm hs => ?_)
        refine W.eq (g2 := F0 m 342 ls [.int r37.1]) rfl ?_
        refine lv_istore (i := 5) (lv' := [(5, .int r37.1), (0, va_rf (some a0)), (1, .int v1), (2, .int v2), (3, .int v3)]) C.1 C.2.1 dX16_mend_342 hl (by decide) rfl (fun ls hl => ?_)
        refine lv_iconst (v := 0) C.1 C.2.1 dX16_mend_344 (by decide) ?_
        refine lv_istore (i := 6) (lv' := [(6, .int 0), (5, .int r37.1), (0, va_rf (some a0)), (1, .int v1), (2, .int v2), (3, .int v3)]) C.1 C.2.1 dX16_mend_345 hl (by decide) rfl (fun ls hl => ?_)
        exact B347 FUEL _ _ _ _ _ _ _ _ _  hm hs (lv_sub hl [2, 3, 4, 5, 0] rfl) hh
      · rw [if_neg c43] at hh
        refine r_aload_n C.1 C.2.1 dX16_mend_313 rfl (lv_at hl 0 rfl) ?_
        refine r_getR C hm flX16_61 dX16_mend_314 hh (fun x39 _ hh => ?_)
        refine lv_iload C.1 C.2.1 dX16_mend_317 (lv_at hl 4 rfl) ?_
        refine r_aload_n C.1 C.2.1 dX16_mend_319 rfl (lv_at hl 0 rfl) ?_
        refine r_getR C hm flX16_58 dX16_mend_320 hh (fun x40 _ hh => ?_)
        refine lv_iload C.1 C.2.1 dX16_mend_323 (lv_at hl 4 rfl) ?_
        refine r_ald C hm dX16_mend_325 hh (fun x41 _ hh => ?_)
        refine r_ast C hm hs dX16_mend_326 hh (fun h42 H locs _ hh hm hs => ?_)
        refine lv_iinc (v := (v5 + 1)) (lv' := [(5, .int (v5 + 1)), (0, va_rf (some a0)), (1, .int v1), (2, .int v2), (3, .int v3)]) C.1 C.2.1 dX16_mend_327 hl (k := 4) rfl rfl (by decide) rfl (fun ls hl => ?_)
        refine lv_goto (tgt := 301) C.1 C.2.1 dX16_mend_330 (by decide) ?_
        exact ih _ _ _ _ _ _ _ _ _  hm hs (lv_sub hl [1, 2, 3, 4, 0] rfl) hh
  have B245 : ∀ n : Nat, ∀ (h : MHp) (H : Heap) (locs : List Loc) (ls : Array Slot) (a0 : Nat) (v1 : Int32) (v2 : Int32) (v3 : Int32) (v4 : Int32) (v5 : Int32) , mHp (gD G) (gC G) (gB G) h H → va_S (fun q => gB G ≤ q) s.heap H locs → lv_has ls 9 [(0, va_rf (some a0)), (1, .int v1), (2, .int v2), (3, .int v3), (4, .int v4), (5, .int v5)] → mX16_mend_l245 n h a0 v1 v2 v3 v4 v5 = some res → W p l e ({ frames := 3, cells := 0, slots := 0, locals := 77 }) s m args below meth c H locs 0 0 Q (F0 m 245 ls []) := by
    intro n
    induction n with
    | zero => intro h H locs ls a0 v1 v2 v3 v4 v5 hm hs hl hh; cases hh
    | succ n ih =>
      intro h H locs ls a0 v1 v2 v3 v4 v5 hm hs hl hh
      unfold mX16_mend_l245 at hh
      refine lv_iload C.1 C.2.1 dX16_mend_245 (lv_at hl 5 rfl) ?_
      refine r_aload_n C.1 C.2.1 dX16_mend_247 rfl (lv_at hl 0 rfl) ?_
      refine r_getI C hm flX16_308 dX16_mend_248 hh (fun x44 _ hh => ?_)
      refine lv_icmp_ge (tgt := 298) C.1 C.2.1 dX16_mend_251 (by decide) (fun c50 => ?_) (fun c50 => ?_)
      · rw [if_pos c50] at hh
        refine lv_iconst (v := 0) C.1 C.2.1 dX16_mend_298 (by decide) ?_
        refine lv_istore (i := 5) (lv' := [(5, .int 0), (0, va_rf (some a0)), (1, .int v1), (2, .int v2), (3, .int v3), (4, .int v4)]) C.1 C.2.1 dX16_mend_299 hl (by decide) rfl (fun ls hl => ?_)
        exact B301 FUEL _ _ _ _ _ _ _ _ _  hm hs (lv_sub hl [1, 2, 3, 4, 0] rfl) hh
      · rw [if_neg c50] at hh
        refine r_aload_n C.1 C.2.1 dX16_mend_254 rfl (lv_at hl 0 rfl) ?_
        refine lv_iload_n C.1 C.2.1 dX16_mend_255 rfl (lv_at hl 1 rfl) ?_
        refine lv_iload C.1 C.2.1 dX16_mend_256 (lv_at hl 5 rfl) ?_
        refine lv_iload_n C.1 C.2.1 dX16_mend_258 rfl (lv_at hl 2 rfl) ?_
        refine lv_iload_n C.1 C.2.1 dX16_mend_259 rfl (lv_at hl 2 rfl) ?_
        refine r_cV C X hm hs mlX16_376 mvX16_376 hh (vv := fun r => some (.int r.1)) (hp := fun r => r.2) (fun b r hg => c_X16_unlike l G h b _ _ _ _ r hg) rfl rfl (Nat.le_of_ble_eq_true rfl) (Nat.le_of_ble_eq_true rfl) (Nat.le_of_ble_eq_true rfl) hl.1 dX16_mend_260 (fun b46 r45 H locs hgr45 hh hm hs => ?_)
        refine W.eq (g2 := F0 m 263 ls [.int r45.1]) rfl ?_
        refine lv_istore (i := 6) (lv' := [(6, .int r45.1), (0, va_rf (some a0)), (1, .int v1), (2, .int v2), (3, .int v3), (4, .int v4), (5, .int v5)]) C.1 C.2.1 dX16_mend_263 hl (by decide) rfl (fun ls hl => ?_)
        refine lv_iload C.1 C.2.1 dX16_mend_265 (lv_at hl 0 rfl) ?_
        refine lv_iconst (v := (-1)) C.1 C.2.1 dX16_mend_267 (by decide) ?_
        refine lv_icmp_eq (tgt := 292) C.1 C.2.1 dX16_mend_268 (by decide) (fun c49 => ?_) (fun c49 => ?_)
        · rw [if_pos c49] at hh
          exact B292 _ ih _ _ _ _ _ _ _ _ _ _  hm hs (lv_sub hl [1, 2, 3, 4, 5, 6] rfl) hh
        · rw [if_neg c49] at hh
          refine lv_iload_n C.1 C.2.1 dX16_mend_271 rfl (lv_at hl 4 rfl) ?_
          refine lv_if_lt (tgt := 285) C.1 C.2.1 dX16_mend_272 (by decide) (fun c48 => ?_) (fun c48 => ?_)
          · rw [if_pos c48] at hh
            exact B285 _ ih _ _ _ _ _ _ _ _ _  hm hs (lv_sub hl [1, 2, 3, 6, 0] rfl) hh
          · rw [if_neg c48] at hh
            refine lv_iload C.1 C.2.1 dX16_mend_275 (lv_at hl 0 rfl) ?_
            refine lv_iload C.1 C.2.1 dX16_mend_277 (lv_at hl 5 rfl) ?_
            refine lv_icmp_lt (tgt := 285) C.1 C.2.1 dX16_mend_279 (by decide) (fun c47 => ?_) (fun c47 => ?_)
            · rw [if_pos c47] at hh
              exact B285 _ ih _ _ _ _ _ _ _ _ _  hm hs (lv_sub hl [1, 2, 3, 6, 0] rfl) hh
            · rw [if_neg c47] at hh
              refine lv_goto (tgt := 292) C.1 C.2.1 dX16_mend_282 (by decide) ?_
              exact B292 _ ih _ _ _ _ _ _ _ _ _ _  hm hs (lv_sub hl [1, 2, 3, 4, 5, 6] rfl) hh
  have B78 : ∀ n : Nat, ∀ (h : MHp) (H : Heap) (locs : List Loc) (ls : Array Slot) (a0 : Nat) (v1 : Int32) (v2 : Int32) (v3 : Int32) , mHp (gD G) (gC G) (gB G) h H → va_S (fun q => gB G ≤ q) s.heap H locs → lv_has ls 9 [(0, va_rf (some a0)), (1, .int v1), (2, .int v2), (3, .int v3)] → mX16_mend_l78 n h a0 v1 v2 v3 = some res → W p l e ({ frames := 3, cells := 0, slots := 0, locals := 77 }) s m args below meth c H locs 0 0 Q (F0 m 78 ls []) := by
    intro n
    induction n with
    | zero => intro h H locs ls a0 v1 v2 v3 hm hs hl hh; cases hh
    | succ n ih =>
      intro h H locs ls a0 v1 v2 v3 hm hs hl hh
      unfold mX16_mend_l78 at hh
      refine lv_iload_n C.1 C.2.1 dX16_mend_78 rfl (lv_at hl 3 rfl) ?_
      refine lv_iconst (v := 1) C.1 C.2.1 dX16_mend_79 (by decide) ?_
      refine r_aload_n C.1 C.2.1 dX16_mend_80 rfl (lv_at hl 0 rfl) ?_
      refine r_getR C hm flX16_274 dX16_mend_81 hh (fun x51 _ hh => ?_)
      refine r_getI C hm flX16_218 dX16_mend_84 hh (fun x52 _ hh => ?_)
      refine lv_ishl C.1 C.2.1 dX16_mend_87 ?_
      refine lv_icmp_ge (tgt := 225) C.1 C.2.1 dX16_mend_88 (by decide) (fun c68 => ?_) (fun c68 => ?_)
      · rw [if_pos c68] at hh
        refine lv_iload_n C.1 C.2.1 dX16_mend_225 rfl (lv_at hl 2 rfl) ?_
        refine lv_if_ne (tgt := 236) C.1 C.2.1 dX16_mend_226 (by decide) (fun c55 => ?_) (fun c55 => ?_)
        · rw [if_neg c55] at hh
          refine lv_bipush (v := (-2)) C.1 C.2.1 dX16_mend_236 (by decide) ?_
          refine lv_istore_n (i := 3) (lv' := [(3, .int (-2)), (0, va_rf (some a0)), (1, .int v1), (2, .int v2)]) C.1 C.2.1 dX16_mend_238 rfl hl (by decide) rfl (fun ls hl => ?_)
          refine lv_iconst (v := 0) C.1 C.2.1 dX16_mend_239 (by decide) ?_
          refine lv_istore (i := 4) (lv' := [(4, .int 0), (3, .int (-2)), (0, va_rf (some a0)), (1, .int v1), (2, .int v2)]) C.1 C.2.1 dX16_mend_240 hl (by decide) rfl (fun ls hl => ?_)
          refine lv_iconst (v := 0) C.1 C.2.1 dX16_mend_242 (by decide) ?_
          refine lv_istore (i := 5) (lv' := [(5, .int 0), (4, .int 0), (3, .int (-2)), (0, va_rf (some a0)), (1, .int v1), (2, .int v2)]) C.1 C.2.1 dX16_mend_243 hl (by decide) rfl (fun ls hl => ?_)
          exact B245 FUEL _ _ _ _ _ _ _ _ _ _  hm hs (lv_sub hl [3, 4, 5, 2, 1, 0] rfl) hh
        · rw [if_pos c55] at hh
          refine r_aload_n C.1 C.2.1 dX16_mend_229 rfl (lv_at hl 0 rfl) ?_
          refine lv_bipush (v := 6) C.1 C.2.1 dX16_mend_230 (by decide) ?_
          refine r_cV C X hm hs mlX16_293 mvX16_293 hh (vv := fun r => some (.int r.1)) (hp := fun r => r.2) (fun b r hg => c_X16_refused l G h b _ r hg) rfl rfl (Nat.le_of_ble_eq_true rfl) (Nat.le_of_ble_eq_true rfl) (Nat.le_of_ble_eq_true rfl) hl.1 dX16_mend_232 (fun b54 r53 H locs hgr53 hh hm hs => ?_)
          refine W.eq (g2 := F0 m 235 ls [.int r53.1]) rfl ?_
          exact r_iretW hQ C hr hm hs hh dX16_mend_235
      · rw [if_neg c68] at hh
        refine lv_iload_n C.1 C.2.1 dX16_mend_91 rfl (lv_at hl 3 rfl) ?_
        refine lv_iload_n C.1 C.2.1 dX16_mend_92 rfl (lv_at hl 2 rfl) ?_
        refine lv_ixor C.1 C.2.1 dX16_mend_93 ?_
        refine lv_istore (i := 4) (lv' := [(4, .int (v3 ^^^ v2)), (0, va_rf (some a0)), (1, .int v1), (2, .int v2), (3, .int v3)]) C.1 C.2.1 dX16_mend_94 hl (by decide) rfl (fun ls hl => ?_)
        refine r_aload_n C.1 C.2.1 dX16_mend_96 rfl (lv_at hl 1 rfl) ?_
        refine lv_iload_n C.1 C.2.1 dX16_mend_97 rfl (lv_at hl 4 rfl) ?_
        refine r_cV C X hm hs mlX16_366 mvX16_366 hh (vv := fun r => some (.int r)) (hp := fun r => h) (fun b r hg => c_X16_costOf l G h b _ r hg) rfl rfl (Nat.le_of_ble_eq_true rfl) (Nat.le_of_ble_eq_true rfl) (Nat.le_of_ble_eq_true rfl) hl.1 dX16_mend_98 (fun b57 r56 H locs hgr56 hh hm hs => ?_)
        refine W.eq (g2 := F0 m 101 ls [.int r56]) rfl ?_
        refine r_aload_n C.1 C.2.1 dX16_mend_101 rfl (lv_at hl 1 rfl) ?_
        refine lv_iload_n C.1 C.2.1 dX16_mend_102 rfl (lv_at hl 3 rfl) ?_
        refine r_cV C X hm hs mlX16_366 mvX16_366 hh (vv := fun r => some (.int r)) (hp := fun r => h) (fun b r hg => c_X16_costOf l G h b _ r hg) rfl rfl (Nat.le_of_ble_eq_true rfl) (Nat.le_of_ble_eq_true rfl) (Nat.le_of_ble_eq_true rfl) hl.1 dX16_mend_103 (fun b59 r58 H locs hgr58 hh hm hs => ?_)
        refine W.eq (g2 := F0 m 106 ls [.int r58, .int r56]) rfl ?_
        refine lv_isub C.1 C.2.1 dX16_mend_106 ?_
        refine lv_istore (i := 5) (lv' := [(5, .int (r56 - r58)), (4, .int (v3 ^^^ v2)), (0, va_rf (some a0)), (1, .int v1), (2, .int v2), (3, .int v3)]) C.1 C.2.1 dX16_mend_107 hl (by decide) rfl (fun ls hl => ?_)
        refine lv_iload_n C.1 C.2.1 dX16_mend_109 rfl (lv_at hl 5 rfl) ?_
        refine r_cS C X hm hs mlX16_369 msX16_369 hh (vv := fun r => some (.int r)) (hp := fun r => h) (fun r hg => c_X16_bits l G h _ r hg) rfl rfl (Nat.le_of_ble_eq_true rfl) (Nat.le_of_ble_eq_true rfl) (Nat.le_of_ble_eq_true rfl) hl.1 dX16_mend_110 (fun r60 H locs hgr60 hh hm hs => ?_)
        refine W.eq (g2 := F0 m 113 ls [.int r60]) rfl ?_
        refine lv_iload_n C.1 C.2.1 dX16_mend_113 rfl (lv_at hl 4 rfl) ?_
        refine r_cS C X hm hs mlX16_369 msX16_369 hh (vv := fun r => some (.int r)) (hp := fun r => h) (fun r hg => c_X16_bits l G h _ r hg) rfl rfl (Nat.le_of_ble_eq_true rfl) (Nat.le_of_ble_eq_true rfl) (Nat.le_of_ble_eq_true rfl) hl.1 dX16_mend_114 (fun r61 H locs hgr61 hh hm hs => ?_)
        refine W.eq (g2 := F0 m 117 ls [.int r61, .int r60]) rfl ?_
        refine lv_isub C.1 C.2.1 dX16_mend_117 ?_
        refine lv_istore (i := 6) (lv' := [(6, .int (r60 - r61)), (5, .int (r56 - r58)), (4, .int (v3 ^^^ v2)), (0, va_rf (some a0)), (1, .int v1), (2, .int v2), (3, .int v3)]) C.1 C.2.1 dX16_mend_118 hl (by decide) rfl (fun ls hl => ?_)
        refine lv_iload_n C.1 C.2.1 dX16_mend_120 rfl (lv_at hl 5 rfl) ?_
        refine lv_if_eq (tgt := 155) C.1 C.2.1 dX16_mend_121 (by decide) (fun c67 => ?_) (fun c67 => ?_)
        · rw [if_pos c67] at hh
          exact B155 _ ih _ _ _ _ _ _ _ _  hm hs (lv_sub hl [3, 4, 5, 6] rfl) hh
        · rw [if_neg c67] at hh
          refine lv_iload C.1 C.2.1 dX16_mend_124 (lv_at hl 1 rfl) ?_
          refine lv_if_lt (tgt := 155) C.1 C.2.1 dX16_mend_126 (by decide) (fun c66 => ?_) (fun c66 => ?_)
          · rw [if_pos c66] at hh
            exact B155 _ ih _ _ _ _ _ _ _ _  hm hs (lv_sub hl [3, 4, 5, 6] rfl) hh
          · rw [if_neg c66] at hh
            refine lv_iload C.1 C.2.1 dX16_mend_129 (lv_at hl 1 rfl) ?_
            refine lv_if_ne (tgt := 159) C.1 C.2.1 dX16_mend_131 (by decide) (fun c65 => ?_) (fun c65 => ?_)
            · rw [if_neg c65] at hh
              exact B159 _ ih _ _ _ _ _ _ _ _  hm hs (lv_sub hl [3, 4, 5, 6] rfl) hh
            · rw [if_pos c65] at hh
              refine lv_iload C.1 C.2.1 dX16_mend_134 (lv_at hl 0 rfl) ?_
              refine lv_if_lt (tgt := 155) C.1 C.2.1 dX16_mend_136 (by decide) (fun c64 => ?_) (fun c64 => ?_)
              · rw [if_pos c64] at hh
                exact B155 _ ih _ _ _ _ _ _ _ _  hm hs (lv_sub hl [3, 4, 5, 6] rfl) hh
              · rw [if_neg c64] at hh
                refine lv_iload C.1 C.2.1 dX16_mend_139 (lv_at hl 0 rfl) ?_
                refine lv_if_ne (tgt := 159) C.1 C.2.1 dX16_mend_141 (by decide) (fun c63 => ?_) (fun c63 => ?_)
                · rw [if_neg c63] at hh
                  exact B159 _ ih _ _ _ _ _ _ _ _  hm hs (lv_sub hl [3, 4, 5, 6] rfl) hh
                · rw [if_pos c63] at hh
                  refine lv_iload_n C.1 C.2.1 dX16_mend_144 rfl (lv_at hl 6 rfl) ?_
                  refine lv_iload C.1 C.2.1 dX16_mend_145 (lv_at hl 2 rfl) ?_
                  refine lv_iand C.1 C.2.1 dX16_mend_147 ?_
                  refine lv_iload C.1 C.2.1 dX16_mend_148 (lv_at hl 2 rfl) ?_
                  refine lv_ineg C.1 C.2.1 dX16_mend_150 ?_
                  refine lv_iand C.1 C.2.1 dX16_mend_151 ?_
                  refine lv_if_eq (tgt := 159) C.1 C.2.1 dX16_mend_152 (by decide) (fun c62 => ?_) (fun c62 => ?_)
                  · rw [if_pos c62] at hh
                    exact B159 _ ih _ _ _ _ _ _ _ _  hm hs (lv_sub hl [3, 4, 5, 6] rfl) hh
                  · rw [if_neg c62] at hh
                    exact B155 _ ih _ _ _ _ _ _ _ _  hm hs (lv_sub hl [3, 4, 5, 6] rfl) hh
  unfold mX16_mend at hh
  refine r_aload_n C.1 C.2.1 dX16_mend_0 rfl (lv_at hl 0 rfl) ?_
  refine lv_iconst (v := 0) C.1 C.2.1 dX16_mend_1 (by decide) ?_
  refine r_putI C hm hs flX16_109 (Or.inl fm_17_0) dX16_mend_2 hh (fun h69 H locs _ hh hm hs => ?_)
  refine r_aload_n C.1 C.2.1 dX16_mend_5 rfl (lv_at hl 0 rfl) ?_
  refine lv_iload_n C.1 C.2.1 dX16_mend_6 rfl (lv_at hl 1 rfl) ?_
  refine r_cV C X hm hs mlX16_336 mvX16_336 hh (vv := fun r => some (.int r)) (hp := fun r => h69) (fun b r hg => c_X16_isRow l G h69 b _ r hg) rfl rfl (Nat.le_of_ble_eq_true rfl) (Nat.le_of_ble_eq_true rfl) (Nat.le_of_ble_eq_true rfl) hl.1 dX16_mend_7 (fun b71 r70 H locs hgr70 hh hm hs => ?_)
  refine W.eq (g2 := F0 m 10 ls [.int r70]) rfl ?_
  refine lv_if_ne (tgt := 19) C.1 C.2.1 dX16_mend_10 (by decide) (fun c89 => ?_) (fun c89 => ?_)
  · rw [if_neg c89] at hh
    refine r_aload_n C.1 C.2.1 dX16_mend_19 rfl (lv_at hl 0 rfl) ?_
    refine lv_iload_n C.1 C.2.1 dX16_mend_20 rfl (lv_at hl 1 rfl) ?_
    refine r_aload_n C.1 C.2.1 dX16_mend_21 rfl (lv_at hl 0 rfl) ?_
    refine r_getI C hm flX16_314 dX16_mend_22 hh (fun x72 _ hh => ?_)
    refine lv_iconst (v := 0) C.1 C.2.1 dX16_mend_25 (by decide) ?_
    refine r_aload_n C.1 C.2.1 dX16_mend_26 rfl (lv_at hl 0 rfl) ?_
    refine r_getR C hm flX16_58 dX16_mend_27 hh (fun x73 _ hh => ?_)
    refine r_cV C X hm hs mlX16_349 mvX16_349 hh (vv := fun r => none) (hp := fun r => r) (fun b r hg => c_X16_loads l G h69 b _ _ _ _ r hg) rfl rfl (Nat.le_of_ble_eq_true rfl) (Nat.le_of_ble_eq_true rfl) (Nat.le_of_ble_eq_true rfl) hl.1 dX16_mend_30 (fun b75 r74 H locs hgr74 hh hm hs => ?_)
    refine W.eq (g2 := F0 m 33 ls []) rfl ?_
    refine r_aload_n C.1 C.2.1 dX16_mend_33 rfl (lv_at hl 0 rfl) ?_
    refine r_getR C hm flX16_274 dX16_mend_34 hh (fun x76 _ hh => ?_)
    refine r_aload_n C.1 C.2.1 dX16_mend_37 rfl (lv_at hl 0 rfl) ?_
    refine r_getR C hm flX16_58 dX16_mend_38 hh (fun x77 _ hh => ?_)
    refine r_cV C X hm hs mlX16_356 mvX16_356 hh (vv := fun r => some (.int r)) (hp := fun r => r74) (fun b r hg => c_X12_broken l G r74 b _ r hg) rfl rfl (Nat.le_of_ble_eq_true rfl) (Nat.le_of_ble_eq_true rfl) (Nat.le_of_ble_eq_true rfl) hl.1 dX16_mend_41 (fun b79 r78 H locs hgr78 hh hm hs => ?_)
    refine W.eq (g2 := F0 m 44 ls [.int r78]) rfl ?_
    refine lv_iconst (v := (-1)) C.1 C.2.1 dX16_mend_44 (by decide) ?_
    refine lv_icmp_eq (tgt := 68) C.1 C.2.1 dX16_mend_45 (by decide) (fun c86 => ?_) (fun c86 => ?_)
    · rw [if_pos c86] at hh
      exact B68 _ _ _ _ _  hm hs (lv_sub hl [0] rfl) hh
    · rw [if_neg c86] at hh
      refine r_aload_n C.1 C.2.1 dX16_mend_48 rfl (lv_at hl 0 rfl) ?_
      refine r_getR C hm flX16_43 dX16_mend_49 hh (fun x80 _ hh => ?_)
      refine lv_iload_n C.1 C.2.1 dX16_mend_52 rfl (lv_at hl 1 rfl) ?_
      refine r_ald C hm dX16_mend_53 hh (fun x81 _ hh => ?_)
      refine lv_iconst (v := (-1)) C.1 C.2.1 dX16_mend_54 (by decide) ?_
      refine lv_icmp_ne (tgt := 68) C.1 C.2.1 dX16_mend_55 (by decide) (fun c85 => ?_) (fun c85 => ?_)
      · rw [if_neg c85] at hh
        exact B68 _ _ _ _ _  hm hs (lv_sub hl [0] rfl) hh
      · rw [if_pos c85] at hh
        refine r_aload_n C.1 C.2.1 dX16_mend_58 rfl (lv_at hl 0 rfl) ?_
        refine r_getR C hm flX16_46 dX16_mend_59 hh (fun x82 _ hh => ?_)
        refine lv_iload_n C.1 C.2.1 dX16_mend_62 rfl (lv_at hl 1 rfl) ?_
        refine r_ald C hm dX16_mend_63 hh (fun x83 _ hh => ?_)
        refine lv_iconst (v := (-1)) C.1 C.2.1 dX16_mend_64 (by decide) ?_
        refine lv_icmp_eq (tgt := 74) C.1 C.2.1 dX16_mend_65 (by decide) (fun c84 => ?_) (fun c84 => ?_)
        · rw [if_pos c84] at hh
          refine lv_iconst (v := 0) C.1 C.2.1 dX16_mend_74 (by decide) ?_
          refine lv_istore_n (i := 2) (lv' := [(2, .int 0), (0, va_rf (some a0)), (1, .int a1)]) C.1 C.2.1 dX16_mend_75 rfl hl (by decide) rfl (fun ls hl => ?_)
          refine lv_iconst (v := 1) C.1 C.2.1 dX16_mend_76 (by decide) ?_
          refine lv_istore_n (i := 3) (lv' := [(3, .int 1), (2, .int 0), (0, va_rf (some a0)), (1, .int a1)]) C.1 C.2.1 dX16_mend_77 rfl hl (by decide) rfl (fun ls hl => ?_)
          exact B78 FUEL _ _ _ _ _ _ _ _  hm hs (lv_sub hl [2, 3, 1, 0] rfl) hh
        · rw [if_neg c84] at hh
          exact B68 _ _ _ _ _  hm hs (lv_sub hl [0] rfl) hh
  · rw [if_pos c89] at hh
    refine r_aload_n C.1 C.2.1 dX16_mend_13 rfl (lv_at hl 0 rfl) ?_
    refine lv_iconst (v := 1) C.1 C.2.1 dX16_mend_14 (by decide) ?_
    refine r_cV C X hm hs mlX16_293 mvX16_293 hh (vv := fun r => some (.int r.1)) (hp := fun r => r.2) (fun b r hg => c_X16_refused l G h69 b _ r hg) rfl rfl (Nat.le_of_ble_eq_true rfl) (Nat.le_of_ble_eq_true rfl) (Nat.le_of_ble_eq_true rfl) hl.1 dX16_mend_15 (fun b88 r87 H locs hgr87 hh hm hs => ?_)
    refine W.eq (g2 := F0 m 18 ls [.int r87.1]) rfl ?_
    exact r_iretW hQ C hr hm hs hh dX16_mend_18
def mX16_giver (h : MHp) (a0 : Nat) : Option (Int32 × MHp) := (pI 17 0 h (some a0) 0).bind fun h1 => (gI 17 32 h1 (some a0)).bind fun x2 => some (x2, h1)
set_option maxRecDepth 100000 in
set_option maxHeartbeats 4000000 in
theorem c_X16_giver (l : Launch) (G : Env0) (h : MHp) (a0 : Nat) (res : Int32 × MHp) (hh : mX16_giver h a0 = some res) : MG l yX16_giver cX16_giver 1 (some .int) 0 0 0 0 G h [.ref a0] (some (.int res.1)) (res.2) := by
  refine MG_of (own := RX16) (plainFor_of_name (by decide)) rfl (Nat.le_of_ble_eq_true rfl) ?_
  intro p e s m args below meth c Q ls hQ C X hin hm hs hl hr
  have hl : lv_has ls 1 [(0, va_rf (some a0))] := hl
  unfold mX16_giver at hh
  refine r_aload_n C.1 C.2.1 dX16_giver_0 rfl (lv_at hl 0 rfl) ?_
  refine lv_iconst (v := 0) C.1 C.2.1 dX16_giver_1 (by decide) ?_
  refine r_putI C hm hs flX16_109 (Or.inl fm_17_0) dX16_giver_2 hh (fun h1 H locs _ hh hm hs => ?_)
  refine r_aload_n C.1 C.2.1 dX16_giver_5 rfl (lv_at hl 0 rfl) ?_
  refine r_getI C hm flX16_67 dX16_giver_6 hh (fun x2 _ hh => ?_)
  exact r_iretW hQ C hr hm hs hh dX16_giver_9
def mX16_fill_b96 (h : MHp) (a0 : Nat) : Option (Int32 × MHp) := (rcv 17 h (some a0)).bind fun b2 => (mX16_refused h b2 5).bind fun r1 => some (r1.1, r1.2)
def mX16_fill_b139 (k107 : MHp → Nat → Int32 → Int32 → Int32 → Int32 → Option (Int32 × MHp)) (h : MHp) (a0 : Nat) (v1 : Int32) (v2 : Int32) (v4 : Int32) (t0 : Int32) (t1 : Int32) : Option (Int32 × MHp) := k107 h a0 v1 v2 (t0 ||| t1) (v4 + 1)
def mX16_fill_b238 (k156 : MHp → Nat → Int32 → Int32 → Int32 → Int32 → Int32 → Int32 → Option (Int32 × MHp)) (h : MHp) (a0 : Nat) (v1 : Int32) (v2 : Int32) (v3 : Int32) (v4 : Int32) (v5 : Int32) (v6 : Int32) : Option (Int32 × MHp) := k156 h a0 v1 v2 v3 v4 v5 (v6 + 1)
def mX16_fill_b222 (k156 : MHp → Nat → Int32 → Int32 → Int32 → Int32 → Int32 → Int32 → Option (Int32 × MHp)) (h : MHp) (a0 : Nat) (v1 : Int32) (v2 : Int32) (v3 : Int32) (v4 : Int32) (v6 : Int32) (v7 : Int32) : Option (Int32 × MHp) := (gR 17 33 h (some a0)).bind fun x3 => (pAI 20 h x3 v4 v6).bind fun h4 => mX16_fill_b238 k156 h4 a0 v1 v2 v3 (v4 + 1) v7 v6
def mX16_fill_b219 (k156 : MHp → Nat → Int32 → Int32 → Int32 → Int32 → Int32 → Int32 → Option (Int32 × MHp)) (h : MHp) (a0 : Nat) (v1 : Int32) (v2 : Int32) (v3 : Int32) (v6 : Int32) (v7 : Int32) : Option (Int32 × MHp) := mX16_fill_b222 k156 h a0 v1 v2 v3 0 v6 v7
def mX16_fill_b207 (k156 : MHp → Nat → Int32 → Int32 → Int32 → Int32 → Int32 → Int32 → Option (Int32 × MHp)) (h : MHp) (a0 : Nat) (v1 : Int32) (v2 : Int32) (v3 : Int32) (v4 : Int32) (v5 : Int32) (v6 : Int32) (v7 : Int32) : Option (Int32 × MHp) := (if v4 = 0 then mX16_fill_b219 k156 h a0 v1 v2 v3 v6 v7 else (if v5 ≤ v7 then mX16_fill_b222 k156 h a0 v1 v2 v3 v4 v6 v7 else mX16_fill_b219 k156 h a0 v1 v2 v3 v6 v7))
def mX16_fill_l268 (k259 : MHp → Nat → Int32 → Int32 → Int32 → Int32 → Option (Int32 × MHp)) : Nat → MHp → Nat → Int32 → Int32 → Int32 → Int32 → Int32 → Option (Int32 × MHp)
  | 0, _, _, _, _, _, _, _ => none
  | n + 1, h, a0, v1, v2, v4, v6, v7 => (gR 17 4 h (some a0)).bind fun x7 => (gI 13 0 h x7).bind fun x8 => (if x8 ≤ v7 then k259 h a0 v1 v2 v4 (v6 + 1) else (gR 17 22 h (some a0)).bind fun x9 => (gR 17 33 h (some a0)).bind fun x10 => (nz v4).bind fun _ => (gAI 20 h x10 ((v2 + v6) - (v2 + v6) / v4 * v4)).bind fun x11 => (gI 17 19 h (some a0)).bind fun x12 => (rcv 17 h (some a0)).bind fun b14 => (mX16_valueOf h b14 x11 v7 x12 0).bind fun r13 => (pAI 20 h x9 ((6 * ((5 * v1) + v6)) + v7) r13).bind fun h15 => mX16_fill_l268 k259 n h15 a0 v1 v2 v4 v6 (v7 + 1))
def mX16_fill_l259 : Nat → MHp → Nat → Int32 → Int32 → Int32 → Int32 → Option (Int32 × MHp)
  | 0, _, _, _, _, _, _ => none
  | n + 1, h, a0, v1, v2, v4, v6 => (if 5 ≤ v6 then (gR 17 27 h (some a0)).bind fun x17 => (gI 17 19 h (some a0)).bind fun x18 => (pAI 20 h x17 v1 x18).bind fun h19 => (rcv 17 h19 (some a0)).bind fun b21 => (mX16_done h19 b21 v4).bind fun r20 => some (r20.1, r20.2) else mX16_fill_l268 (mX16_fill_l259 n) FUEL h a0 v1 v2 v4 v6 0)
def mX16_fill_l156 : Nat → MHp → Nat → Int32 → Int32 → Int32 → Int32 → Int32 → Int32 → Option (Int32 × MHp)
  | 0, _, _, _, _, _, _, _, _ => none
  | n + 1, h, a0, v1, v2, v3, v4, v5, v6 => (gI 17 18 h (some a0)).bind fun x23 => (if x23 ≤ v6 then (if v4 = 0 then (rcv 17 h (some a0)).bind fun b25 => (mX16_refused h b25 6).bind fun r24 => some (r24.1, r24.2) else mX16_fill_l259 FUEL h a0 v1 v2 v4 0) else (gR 17 4 h (some a0)).bind fun x27 => (gI 13 0 h x27).bind fun x28 => (rcv 17 h (some a0)).bind fun b30 => (mX16_unlike h b30 v1 v6 v3 ((1 <<< (x28 &&& 31)) - 1)).bind fun r29 => (if r29.1 = (-1) then mX16_fill_b238 (mX16_fill_l156 n) r29.2 a0 v1 v2 v3 v4 v5 v6 else (if v4 ≤ 0 then mX16_fill_b207 (mX16_fill_l156 n) r29.2 a0 v1 v2 v3 v4 v5 v6 r29.1 else (if r29.1 ≤ v5 then mX16_fill_b207 (mX16_fill_l156 n) r29.2 a0 v1 v2 v3 v4 v5 v6 r29.1 else mX16_fill_b238 (mX16_fill_l156 n) r29.2 a0 v1 v2 v3 v4 v5 v6))))
def mX16_fill_l107 : Nat → MHp → Nat → Int32 → Int32 → Int32 → Int32 → Option (Int32 × MHp)
  | 0, _, _, _, _, _, _ => none
  | n + 1, h, a0, v1, v2, v3, v4 => (gR 17 4 h (some a0)).bind fun x35 => (gI 13 0 h x35).bind fun x36 => (if x36 ≤ v4 then mX16_fill_l156 FUEL h a0 v1 v2 v3 0 0 0 else (gR 17 29 h (some a0)).bind fun x37 => (gAI 20 h x37 v4).bind fun x38 => (if x38 = (-1) then mX16_fill_b139 (mX16_fill_l107 n) h a0 v1 v2 v4 v3 (1 <<< (v4 &&& 31)) else mX16_fill_b139 (mX16_fill_l107 n) h a0 v1 v2 v4 v3 0))
def mX16_fill (h : MHp) (a0 : Nat) (a1 : Int32) (a2 : Int32) : Option (Int32 × MHp) := (pI 17 0 h (some a0) 0).bind fun h41 => (rcv 17 h41 (some a0)).bind fun b43 => (mX16_isRow h41 b43 a1).bind fun r42 => (if r42 = 0 then (rcv 17 h41 (some a0)).bind fun b68 => (mX16_refused h41 b68 1).bind fun r67 => some (r67.1, r67.2) else (mX16_in h41 a2 0 999).bind fun r44 => (if r44 = 0 then (rcv 17 h41 (some a0)).bind fun b65 => (mX16_refused h41 b65 2).bind fun r64 => some (r64.1, r64.2) else (gI 17 19 h41 (some a0)).bind fun x45 => (gR 17 29 h41 (some a0)).bind fun x46 => (rcv 17 h41 (some a0)).bind fun b48 => (mX16_loads h41 b48 a1 x45 0 x46).bind fun r47 => (gR 17 29 r47 (some a0)).bind fun x49 => (rcv 17 r47 (some a0)).bind fun b51 => (mX16_gapsOf r47 b51 x49).bind fun r50 => (if r50 = 0 then mX16_fill_b96 r47 a0 else (gR 17 4 r47 (some a0)).bind fun x52 => (gR 17 29 r47 (some a0)).bind fun x53 => (rcv 13 r47 x52).bind fun b55 => (mX12_broken r47 b55 x53).bind fun r54 => (if r54 = (-1) then (gR 17 24 r47 (some a0)).bind fun x56 => (gAI 20 r47 x56 a1).bind fun x57 => (if x57 = (-1) then (gR 17 27 r47 (some a0)).bind fun x58 => (gAI 20 r47 x58 a1).bind fun x59 => (if x59 = (-1) then mX16_fill_l107 FUEL r47 a0 a1 a2 0 0 else mX16_fill_b96 r47 a0) else mX16_fill_b96 r47 a0) else mX16_fill_b96 r47 a0))))
set_option maxRecDepth 100000 in
set_option maxHeartbeats 4000000 in
theorem c_X16_fill (l : Launch) (G : Env0) (h : MHp) (a0 : Nat) (a1 : Int32) (a2 : Int32) (res : Int32 × MHp) (hh : mX16_fill h a0 a1 a2 = some res) : MG l yX16_fill cX16_fill 8 (some .int) 3 77 0 0 G h [.ref a0, .int a1, .int a2] (some (.int res.1)) (res.2) := by
  refine MG_of (own := RX16) (plainFor_of_name (by decide)) rfl (Nat.le_of_ble_eq_true rfl) ?_
  intro p e s m args below meth c Q ls hQ C X hin hm hs hl hr
  have hl : lv_has ls 8 [(0, va_rf (some a0)), (1, .int a1), (2, .int a2)] := hl
  have B96 : ∀ (h : MHp) (H : Heap) (locs : List Loc) (ls : Array Slot) (a0 : Nat) , mHp (gD G) (gC G) (gB G) h H → va_S (fun q => gB G ≤ q) s.heap H locs → lv_has ls 8 [(0, va_rf (some a0))] → mX16_fill_b96 h a0 = some res → W p l e ({ frames := 3, cells := 0, slots := 0, locals := 77 }) s m args below meth c H locs 0 0 Q (F0 m 96 ls []) := by
    intro h H locs ls a0 hm hs hl hh
    unfold mX16_fill_b96 at hh
    refine r_aload_n C.1 C.2.1 dX16_fill_96 rfl (lv_at hl 0 rfl) ?_
    refine lv_iconst (v := 5) C.1 C.2.1 dX16_fill_97 (by decide) ?_
    refine r_cV C X hm hs mlX16_293 mvX16_293 hh (vv := fun r => some (.int r.1)) (hp := fun r => r.2) (fun b r hg => c_X16_refused l G h b _ r hg) rfl rfl (Nat.le_of_ble_eq_true rfl) (Nat.le_of_ble_eq_true rfl) (Nat.le_of_ble_eq_true rfl) hl.1 dX16_fill_98 (fun b2 r1 H locs hgr1 hh hm hs => ?_)
    refine W.eq (g2 := F0 m 101 ls [.int r1.1]) rfl ?_
    exact r_iretW hQ C hr hm hs hh dX16_fill_101
  have B139 : ∀ (k107 : MHp → Nat → Int32 → Int32 → Int32 → Int32 → Option (Int32 × MHp)), (∀ (h : MHp) (H : Heap) (locs : List Loc) (ls : Array Slot) (a0 : Nat) (v1 : Int32) (v2 : Int32) (v3 : Int32) (v4 : Int32) , mHp (gD G) (gC G) (gB G) h H → va_S (fun q => gB G ≤ q) s.heap H locs → lv_has ls 8 [(0, va_rf (some a0)), (1, .int v1), (2, .int v2), (3, .int v3), (4, .int v4)] → k107 h a0 v1 v2 v3 v4 = some res → W p l e ({ frames := 3, cells := 0, slots := 0, locals := 77 }) s m args below meth c H locs 0 0 Q (F0 m 107 ls [])) → ∀ (h : MHp) (H : Heap) (locs : List Loc) (ls : Array Slot) (a0 : Nat) (v1 : Int32) (v2 : Int32) (v4 : Int32) (t0 : Int32) (t1 : Int32) , mHp (gD G) (gC G) (gB G) h H → va_S (fun q => gB G ≤ q) s.heap H locs → lv_has ls 8 [(0, va_rf (some a0)), (1, .int v1), (2, .int v2), (4, .int v4)] → mX16_fill_b139 k107 h a0 v1 v2 v4 t0 t1 = some res → W p l e ({ frames := 3, cells := 0, slots := 0, locals := 77 }) s m args below meth c H locs 0 0 Q (F0 m 139 ls [.int t1, .int t0]) := by
    intro k107 hk107 h H locs ls a0 v1 v2 v4 t0 t1 hm hs hl hh
    unfold mX16_fill_b139 at hh
    refine lv_ior C.1 C.2.1 dX16_fill_139 ?_
    refine lv_istore_n (i := 3) (lv' := [(3, .int (t0 ||| t1)), (0, va_rf (some a0)), (1, .int v1), (2, .int v2), (4, .int v4)]) C.1 C.2.1 dX16_fill_140 rfl hl (by decide) rfl (fun ls hl => ?_)
    refine lv_iinc (v := (v4 + 1)) (lv' := [(4, .int (v4 + 1)), (3, .int (t0 ||| t1)), (0, va_rf (some a0)), (1, .int v1), (2, .int v2)]) C.1 C.2.1 dX16_fill_141 hl (k := 4) rfl rfl (by decide) rfl (fun ls hl => ?_)
    refine lv_goto (tgt := 107) C.1 C.2.1 dX16_fill_144 (by decide) ?_
    exact hk107 _ _ _ _ _ _ _ _ _  hm hs (lv_sub hl [2, 3, 4, 1, 0] rfl) hh
  have B238 : ∀ (k156 : MHp → Nat → Int32 → Int32 → Int32 → Int32 → Int32 → Int32 → Option (Int32 × MHp)), (∀ (h : MHp) (H : Heap) (locs : List Loc) (ls : Array Slot) (a0 : Nat) (v1 : Int32) (v2 : Int32) (v3 : Int32) (v4 : Int32) (v5 : Int32) (v6 : Int32) , mHp (gD G) (gC G) (gB G) h H → va_S (fun q => gB G ≤ q) s.heap H locs → lv_has ls 8 [(0, va_rf (some a0)), (1, .int v1), (2, .int v2), (3, .int v3), (4, .int v4), (5, .int v5), (6, .int v6)] → k156 h a0 v1 v2 v3 v4 v5 v6 = some res → W p l e ({ frames := 3, cells := 0, slots := 0, locals := 77 }) s m args below meth c H locs 0 0 Q (F0 m 156 ls [])) → ∀ (h : MHp) (H : Heap) (locs : List Loc) (ls : Array Slot) (a0 : Nat) (v1 : Int32) (v2 : Int32) (v3 : Int32) (v4 : Int32) (v5 : Int32) (v6 : Int32) , mHp (gD G) (gC G) (gB G) h H → va_S (fun q => gB G ≤ q) s.heap H locs → lv_has ls 8 [(0, va_rf (some a0)), (1, .int v1), (2, .int v2), (3, .int v3), (4, .int v4), (5, .int v5), (6, .int v6)] → mX16_fill_b238 k156 h a0 v1 v2 v3 v4 v5 v6 = some res → W p l e ({ frames := 3, cells := 0, slots := 0, locals := 77 }) s m args below meth c H locs 0 0 Q (F0 m 238 ls []) := by
    intro k156 hk156 h H locs ls a0 v1 v2 v3 v4 v5 v6 hm hs hl hh
    unfold mX16_fill_b238 at hh
    refine lv_iinc (v := (v6 + 1)) (lv' := [(6, .int (v6 + 1)), (0, va_rf (some a0)), (1, .int v1), (2, .int v2), (3, .int v3), (4, .int v4), (5, .int v5)]) C.1 C.2.1 dX16_fill_238 hl (k := 6) rfl rfl (by decide) rfl (fun ls hl => ?_)
    refine lv_goto (tgt := 156) C.1 C.2.1 dX16_fill_241 (by decide) ?_
    exact hk156 _ _ _ _ _ _ _ _ _ _ _  hm hs (lv_sub hl [1, 2, 3, 4, 5, 6, 0] rfl) hh
  have B222 : ∀ (k156 : MHp → Nat → Int32 → Int32 → Int32 → Int32 → Int32 → Int32 → Option (Int32 × MHp)), (∀ (h : MHp) (H : Heap) (locs : List Loc) (ls : Array Slot) (a0 : Nat) (v1 : Int32) (v2 : Int32) (v3 : Int32) (v4 : Int32) (v5 : Int32) (v6 : Int32) , mHp (gD G) (gC G) (gB G) h H → va_S (fun q => gB G ≤ q) s.heap H locs → lv_has ls 8 [(0, va_rf (some a0)), (1, .int v1), (2, .int v2), (3, .int v3), (4, .int v4), (5, .int v5), (6, .int v6)] → k156 h a0 v1 v2 v3 v4 v5 v6 = some res → W p l e ({ frames := 3, cells := 0, slots := 0, locals := 77 }) s m args below meth c H locs 0 0 Q (F0 m 156 ls [])) → ∀ (h : MHp) (H : Heap) (locs : List Loc) (ls : Array Slot) (a0 : Nat) (v1 : Int32) (v2 : Int32) (v3 : Int32) (v4 : Int32) (v6 : Int32) (v7 : Int32) , mHp (gD G) (gC G) (gB G) h H → va_S (fun q => gB G ≤ q) s.heap H locs → lv_has ls 8 [(0, va_rf (some a0)), (1, .int v1), (2, .int v2), (3, .int v3), (4, .int v4), (6, .int v6), (7, .int v7)] → mX16_fill_b222 k156 h a0 v1 v2 v3 v4 v6 v7 = some res → W p l e ({ frames := 3, cells := 0, slots := 0, locals := 77 }) s m args below meth c H locs 0 0 Q (F0 m 222 ls []) := by
    intro k156 hk156 h H locs ls a0 v1 v2 v3 v4 v6 v7 hm hs hl hh
    unfold mX16_fill_b222 at hh
    refine lv_iload C.1 C.2.1 dX16_fill_222 (lv_at hl 6 rfl) ?_
    refine lv_istore (i := 5) (lv' := [(5, .int v7), (0, va_rf (some a0)), (1, .int v1), (2, .int v2), (3, .int v3), (4, .int v4), (6, .int v6), (7, .int v7)]) C.1 C.2.1 dX16_fill_224 hl (by decide) rfl (fun ls hl => ?_)
    refine r_aload_n C.1 C.2.1 dX16_fill_226 rfl (lv_at hl 1 rfl) ?_
    refine r_getR C hm flX16_70 dX16_fill_227 hh (fun x3 _ hh => ?_)
    refine lv_iload C.1 C.2.1 dX16_fill_230 (lv_at hl 5 rfl) ?_
    refine lv_iload C.1 C.2.1 dX16_fill_232 (lv_at hl 6 rfl) ?_
    refine r_ast C hm hs dX16_fill_234 hh (fun h4 H locs _ hh hm hs => ?_)
    refine lv_iinc (v := (v4 + 1)) (lv' := [(4, .int (v4 + 1)), (5, .int v7), (0, va_rf (some a0)), (1, .int v1), (2, .int v2), (3, .int v3), (6, .int v6), (7, .int v7)]) C.1 C.2.1 dX16_fill_235 hl (k := 5) rfl rfl (by decide) rfl (fun ls hl => ?_)
    exact B238 _ hk156 _ _ _ _ _ _ _ _ _ _ _  hm hs (lv_sub hl [2, 3, 4, 5, 0, 1, 6] rfl) hh
  have B219 : ∀ (k156 : MHp → Nat → Int32 → Int32 → Int32 → Int32 → Int32 → Int32 → Option (Int32 × MHp)), (∀ (h : MHp) (H : Heap) (locs : List Loc) (ls : Array Slot) (a0 : Nat) (v1 : Int32) (v2 : Int32) (v3 : Int32) (v4 : Int32) (v5 : Int32) (v6 : Int32) , mHp (gD G) (gC G) (gB G) h H → va_S (fun q => gB G ≤ q) s.heap H locs → lv_has ls 8 [(0, va_rf (some a0)), (1, .int v1), (2, .int v2), (3, .int v3), (4, .int v4), (5, .int v5), (6, .int v6)] → k156 h a0 v1 v2 v3 v4 v5 v6 = some res → W p l e ({ frames := 3, cells := 0, slots := 0, locals := 77 }) s m args below meth c H locs 0 0 Q (F0 m 156 ls [])) → ∀ (h : MHp) (H : Heap) (locs : List Loc) (ls : Array Slot) (a0 : Nat) (v1 : Int32) (v2 : Int32) (v3 : Int32) (v6 : Int32) (v7 : Int32) , mHp (gD G) (gC G) (gB G) h H → va_S (fun q => gB G ≤ q) s.heap H locs → lv_has ls 8 [(0, va_rf (some a0)), (1, .int v1), (2, .int v2), (3, .int v3), (6, .int v6), (7, .int v7)] → mX16_fill_b219 k156 h a0 v1 v2 v3 v6 v7 = some res → W p l e ({ frames := 3, cells := 0, slots := 0, locals := 77 }) s m args below meth c H locs 0 0 Q (F0 m 219 ls []) := by
    intro k156 hk156 h H locs ls a0 v1 v2 v3 v6 v7 hm hs hl hh
    unfold mX16_fill_b219 at hh
    refine lv_iconst (v := 0) C.1 C.2.1 dX16_fill_219 (by decide) ?_
    refine lv_istore (i := 4) (lv' := [(4, .int 0), (0, va_rf (some a0)), (1, .int v1), (2, .int v2), (3, .int v3), (6, .int v6), (7, .int v7)]) C.1 C.2.1 dX16_fill_220 hl (by decide) rfl (fun ls hl => ?_)
    exact B222 _ hk156 _ _ _ _ _ _ _ _ _ _ _  hm hs (lv_sub hl [1, 2, 3, 4, 0, 5, 6] rfl) hh
  have B207 : ∀ (k156 : MHp → Nat → Int32 → Int32 → Int32 → Int32 → Int32 → Int32 → Option (Int32 × MHp)), (∀ (h : MHp) (H : Heap) (locs : List Loc) (ls : Array Slot) (a0 : Nat) (v1 : Int32) (v2 : Int32) (v3 : Int32) (v4 : Int32) (v5 : Int32) (v6 : Int32) , mHp (gD G) (gC G) (gB G) h H → va_S (fun q => gB G ≤ q) s.heap H locs → lv_has ls 8 [(0, va_rf (some a0)), (1, .int v1), (2, .int v2), (3, .int v3), (4, .int v4), (5, .int v5), (6, .int v6)] → k156 h a0 v1 v2 v3 v4 v5 v6 = some res → W p l e ({ frames := 3, cells := 0, slots := 0, locals := 77 }) s m args below meth c H locs 0 0 Q (F0 m 156 ls [])) → ∀ (h : MHp) (H : Heap) (locs : List Loc) (ls : Array Slot) (a0 : Nat) (v1 : Int32) (v2 : Int32) (v3 : Int32) (v4 : Int32) (v5 : Int32) (v6 : Int32) (v7 : Int32) , mHp (gD G) (gC G) (gB G) h H → va_S (fun q => gB G ≤ q) s.heap H locs → lv_has ls 8 [(0, va_rf (some a0)), (1, .int v1), (2, .int v2), (3, .int v3), (4, .int v4), (5, .int v5), (6, .int v6), (7, .int v7)] → mX16_fill_b207 k156 h a0 v1 v2 v3 v4 v5 v6 v7 = some res → W p l e ({ frames := 3, cells := 0, slots := 0, locals := 77 }) s m args below meth c H locs 0 0 Q (F0 m 207 ls []) := by
    intro k156 hk156 h H locs ls a0 v1 v2 v3 v4 v5 v6 v7 hm hs hl hh
    unfold mX16_fill_b207 at hh
    refine lv_iload C.1 C.2.1 dX16_fill_207 (lv_at hl 4 rfl) ?_
    refine lv_if_eq (tgt := 219) C.1 C.2.1 dX16_fill_209 (by decide) (fun c6 => ?_) (fun c6 => ?_)
    · rw [if_pos c6] at hh
      exact B219 _ hk156 _ _ _ _ _ _ _ _ _ _  hm hs (lv_sub hl [0, 1, 2, 3, 6, 7] rfl) hh
    · rw [if_neg c6] at hh
      refine lv_iload C.1 C.2.1 dX16_fill_212 (lv_at hl 7 rfl) ?_
      refine lv_iload C.1 C.2.1 dX16_fill_214 (lv_at hl 5 rfl) ?_
      refine lv_icmp_ge (tgt := 222) C.1 C.2.1 dX16_fill_216 (by decide) (fun c5 => ?_) (fun c5 => ?_)
      · rw [if_pos c5] at hh
        exact B222 _ hk156 _ _ _ _ _ _ _ _ _ _ _  hm hs (lv_sub hl [0, 1, 2, 3, 4, 6, 7] rfl) hh
      · rw [if_neg c5] at hh
        exact B219 _ hk156 _ _ _ _ _ _ _ _ _ _  hm hs (lv_sub hl [0, 1, 2, 3, 6, 7] rfl) hh
  have B268 : ∀ (k259 : MHp → Nat → Int32 → Int32 → Int32 → Int32 → Option (Int32 × MHp)), (∀ (h : MHp) (H : Heap) (locs : List Loc) (ls : Array Slot) (a0 : Nat) (v1 : Int32) (v2 : Int32) (v4 : Int32) (v6 : Int32) , mHp (gD G) (gC G) (gB G) h H → va_S (fun q => gB G ≤ q) s.heap H locs → lv_has ls 8 [(0, va_rf (some a0)), (1, .int v1), (2, .int v2), (4, .int v4), (6, .int v6)] → k259 h a0 v1 v2 v4 v6 = some res → W p l e ({ frames := 3, cells := 0, slots := 0, locals := 77 }) s m args below meth c H locs 0 0 Q (F0 m 259 ls [])) → ∀ n : Nat, ∀ (h : MHp) (H : Heap) (locs : List Loc) (ls : Array Slot) (a0 : Nat) (v1 : Int32) (v2 : Int32) (v4 : Int32) (v6 : Int32) (v7 : Int32) , mHp (gD G) (gC G) (gB G) h H → va_S (fun q => gB G ≤ q) s.heap H locs → lv_has ls 8 [(0, va_rf (some a0)), (1, .int v1), (2, .int v2), (4, .int v4), (6, .int v6), (7, .int v7)] → mX16_fill_l268 k259 n h a0 v1 v2 v4 v6 v7 = some res → W p l e ({ frames := 3, cells := 0, slots := 0, locals := 77 }) s m args below meth c H locs 0 0 Q (F0 m 268 ls []) := by
    intro k259 hk259 n
    induction n with
    | zero => intro h H locs ls a0 v1 v2 v4 v6 v7 hm hs hl hh; cases hh
    | succ n ih =>
      intro h H locs ls a0 v1 v2 v4 v6 v7 hm hs hl hh
      unfold mX16_fill_l268 at hh
      refine lv_iload C.1 C.2.1 dX16_fill_268 (lv_at hl 5 rfl) ?_
      refine r_aload_n C.1 C.2.1 dX16_fill_270 rfl (lv_at hl 0 rfl) ?_
      refine r_getR C hm flX16_274 dX16_fill_271 hh (fun x7 _ hh => ?_)
      refine r_getI C hm flX16_218 dX16_fill_274 hh (fun x8 _ hh => ?_)
      refine lv_icmp_ge (tgt := 326) C.1 C.2.1 dX16_fill_277 (by decide) (fun c16 => ?_) (fun c16 => ?_)
      · rw [if_pos c16] at hh
        refine lv_iinc (v := (v6 + 1)) (lv' := [(6, .int (v6 + 1)), (0, va_rf (some a0)), (1, .int v1), (2, .int v2), (4, .int v4), (7, .int v7)]) C.1 C.2.1 dX16_fill_326 hl (k := 4) rfl rfl (by decide) rfl (fun ls hl => ?_)
        refine lv_goto (tgt := 259) C.1 C.2.1 dX16_fill_329 (by decide) ?_
        exact hk259 _ _ _ _ _ _ _ _ _  hm hs (lv_sub hl [1, 2, 3, 4, 0] rfl) hh
      · rw [if_neg c16] at hh
        refine r_aload_n C.1 C.2.1 dX16_fill_280 rfl (lv_at hl 0 rfl) ?_
        refine r_getR C hm flX16_37 dX16_fill_281 hh (fun x9 _ hh => ?_)
        refine lv_bipush (v := 6) C.1 C.2.1 dX16_fill_284 (by decide) ?_
        refine lv_iconst (v := 5) C.1 C.2.1 dX16_fill_286 (by decide) ?_
        refine lv_iload_n C.1 C.2.1 dX16_fill_287 rfl (lv_at hl 1 rfl) ?_
        refine lv_imul C.1 C.2.1 dX16_fill_288 ?_
        refine lv_iload C.1 C.2.1 dX16_fill_289 (lv_at hl 4 rfl) ?_
        refine lv_iadd C.1 C.2.1 dX16_fill_291 ?_
        refine lv_imul C.1 C.2.1 dX16_fill_292 ?_
        refine lv_iload C.1 C.2.1 dX16_fill_293 (lv_at hl 5 rfl) ?_
        refine lv_iadd C.1 C.2.1 dX16_fill_295 ?_
        refine r_aload_n C.1 C.2.1 dX16_fill_296 rfl (lv_at hl 0 rfl) ?_
        refine r_aload_n C.1 C.2.1 dX16_fill_297 rfl (lv_at hl 0 rfl) ?_
        refine r_getR C hm flX16_70 dX16_fill_298 hh (fun x10 _ hh => ?_)
        refine lv_iload_n C.1 C.2.1 dX16_fill_301 rfl (lv_at hl 2 rfl) ?_
        refine lv_iload C.1 C.2.1 dX16_fill_302 (lv_at hl 4 rfl) ?_
        refine lv_iadd C.1 C.2.1 dX16_fill_304 ?_
        refine lv_iload C.1 C.2.1 dX16_fill_305 (lv_at hl 3 rfl) ?_
        refine r_irem C dX16_fill_307 hh (fun _ hh => ?_)
        refine r_ald C hm dX16_fill_308 hh (fun x11 _ hh => ?_)
        refine lv_iload C.1 C.2.1 dX16_fill_309 (lv_at hl 5 rfl) ?_
        refine r_aload_n C.1 C.2.1 dX16_fill_311 rfl (lv_at hl 0 rfl) ?_
        refine r_getI C hm flX16_314 dX16_fill_312 hh (fun x12 _ hh => ?_)
        refine lv_iconst (v := 0) C.1 C.2.1 dX16_fill_315 (by decide) ?_
        refine r_cV C X hm hs mlX16_345 mvX16_345 hh (vv := fun r => some (.int r)) (hp := fun r => h) (fun b r hg => c_X16_valueOf l G h b _ _ _ _ r hg) rfl rfl (by simp [va_cat, vc_i, vc_l, vc_r]) (Nat.le_of_ble_eq_true rfl) (Nat.le_of_ble_eq_true rfl) hl.1 dX16_fill_316 (fun b14 r13 H locs hgr13 hh hm hs => ?_)
        refine W.eq (g2 := F0 m 319 ls [.int r13, .int ((6 * ((5 * v1) + v6)) + v7), va_rf x9]) rfl ?_
        refine r_ast C hm hs dX16_fill_319 hh (fun h15 H locs _ hh hm hs => ?_)
        refine lv_iinc (v := (v7 + 1)) (lv' := [(7, .int (v7 + 1)), (0, va_rf (some a0)), (1, .int v1), (2, .int v2), (4, .int v4), (6, .int v6)]) C.1 C.2.1 dX16_fill_320 hl (k := 5) rfl rfl (by decide) rfl (fun ls hl => ?_)
        refine lv_goto (tgt := 268) C.1 C.2.1 dX16_fill_323 (by decide) ?_
        exact ih _ _ _ _ _ _ _ _ _ _  hm hs (lv_sub hl [1, 2, 3, 4, 5, 0] rfl) hh
  have B259 : ∀ n : Nat, ∀ (h : MHp) (H : Heap) (locs : List Loc) (ls : Array Slot) (a0 : Nat) (v1 : Int32) (v2 : Int32) (v4 : Int32) (v6 : Int32) , mHp (gD G) (gC G) (gB G) h H → va_S (fun q => gB G ≤ q) s.heap H locs → lv_has ls 8 [(0, va_rf (some a0)), (1, .int v1), (2, .int v2), (4, .int v4), (6, .int v6)] → mX16_fill_l259 n h a0 v1 v2 v4 v6 = some res → W p l e ({ frames := 3, cells := 0, slots := 0, locals := 77 }) s m args below meth c H locs 0 0 Q (F0 m 259 ls []) := by
    intro n
    induction n with
    | zero => intro h H locs ls a0 v1 v2 v4 v6 hm hs hl hh; cases hh
    | succ n ih =>
      intro h H locs ls a0 v1 v2 v4 v6 hm hs hl hh
      unfold mX16_fill_l259 at hh
      refine lv_iload C.1 C.2.1 dX16_fill_259 (lv_at hl 4 rfl) ?_
      refine lv_iconst (v := 5) C.1 C.2.1 dX16_fill_261 (by decide) ?_
      refine lv_icmp_ge (tgt := 332) C.1 C.2.1 dX16_fill_262 (by decide) (fun c22 => ?_) (fun c22 => ?_)
      · rw [if_pos c22] at hh
        refine r_aload_n C.1 C.2.1 dX16_fill_332 rfl (lv_at hl 0 rfl) ?_
        refine r_getR C hm flX16_52 dX16_fill_333 hh (fun x17 _ hh => ?_)
        refine lv_iload_n C.1 C.2.1 dX16_fill_336 rfl (lv_at hl 1 rfl) ?_
        refine r_aload_n C.1 C.2.1 dX16_fill_337 rfl (lv_at hl 0 rfl) ?_
        refine r_getI C hm flX16_314 dX16_fill_338 hh (fun x18 _ hh => ?_)
        refine r_ast C hm hs dX16_fill_341 hh (fun h19 H locs _ hh hm hs => ?_)
        refine r_aload_n C.1 C.2.1 dX16_fill_342 rfl (lv_at hl 0 rfl) ?_
        refine lv_iload C.1 C.2.1 dX16_fill_343 (lv_at hl 3 rfl) ?_
        refine r_cV C X hm hs mlX16_323 mvX16_323 hh (vv := fun r => some (.int r.1)) (hp := fun r => r.2) (fun b r hg => c_X16_done l G h19 b _ r hg) rfl rfl (Nat.le_of_ble_eq_true rfl) (Nat.le_of_ble_eq_true rfl) (Nat.le_of_ble_eq_true rfl) hl.1 dX16_fill_345 (fun b21 r20 H locs hgr20 hh hm hs => ?_)
        refine W.eq (g2 := F0 m 348 ls [.int r20.1]) rfl ?_
        exact r_iretW hQ C hr hm hs hh dX16_fill_348
      · rw [if_neg c22] at hh
        refine lv_iconst (v := 0) C.1 C.2.1 dX16_fill_265 (by decide) ?_
        refine lv_istore (i := 7) (lv' := [(7, .int 0), (0, va_rf (some a0)), (1, .int v1), (2, .int v2), (4, .int v4), (6, .int v6)]) C.1 C.2.1 dX16_fill_266 hl (by decide) rfl (fun ls hl => ?_)
        exact B268 _ ih FUEL _ _ _ _ _ _ _ _ _ _  hm hs (lv_sub hl [1, 2, 3, 4, 5, 0] rfl) hh
  have B156 : ∀ n : Nat, ∀ (h : MHp) (H : Heap) (locs : List Loc) (ls : Array Slot) (a0 : Nat) (v1 : Int32) (v2 : Int32) (v3 : Int32) (v4 : Int32) (v5 : Int32) (v6 : Int32) , mHp (gD G) (gC G) (gB G) h H → va_S (fun q => gB G ≤ q) s.heap H locs → lv_has ls 8 [(0, va_rf (some a0)), (1, .int v1), (2, .int v2), (3, .int v3), (4, .int v4), (5, .int v5), (6, .int v6)] → mX16_fill_l156 n h a0 v1 v2 v3 v4 v5 v6 = some res → W p l e ({ frames := 3, cells := 0, slots := 0, locals := 77 }) s m args below meth c H locs 0 0 Q (F0 m 156 ls []) := by
    intro n
    induction n with
    | zero => intro h H locs ls a0 v1 v2 v3 v4 v5 v6 hm hs hl hh; cases hh
    | succ n ih =>
      intro h H locs ls a0 v1 v2 v3 v4 v5 v6 hm hs hl hh
      unfold mX16_fill_l156 at hh
      refine lv_iload C.1 C.2.1 dX16_fill_156 (lv_at hl 6 rfl) ?_
      refine r_aload_n C.1 C.2.1 dX16_fill_158 rfl (lv_at hl 0 rfl) ?_
      refine r_getI C hm flX16_308 dX16_fill_159 hh (fun x23 _ hh => ?_)
      refine lv_icmp_ge (tgt := 244) C.1 C.2.1 dX16_fill_162 (by decide) (fun c34 => ?_) (fun c34 => ?_)
      · rw [if_pos c34] at hh
        refine lv_iload C.1 C.2.1 dX16_fill_244 (lv_at hl 4 rfl) ?_
        refine lv_if_ne (tgt := 256) C.1 C.2.1 dX16_fill_246 (by decide) (fun c26 => ?_) (fun c26 => ?_)
        · rw [if_neg c26] at hh
          refine lv_iconst (v := 0) C.1 C.2.1 dX16_fill_256 (by decide) ?_
          refine lv_istore (i := 6) (lv' := [(6, .int 0), (0, va_rf (some a0)), (1, .int v1), (2, .int v2), (3, .int v3), (4, .int v4), (5, .int v5)]) C.1 C.2.1 dX16_fill_257 hl (by decide) rfl (fun ls hl => ?_)
          exact B259 FUEL _ _ _ _ _ _ _ _ _  hm hs (lv_sub hl [1, 2, 3, 5, 0] rfl) hh
        · rw [if_pos c26] at hh
          refine r_aload_n C.1 C.2.1 dX16_fill_249 rfl (lv_at hl 0 rfl) ?_
          refine lv_bipush (v := 6) C.1 C.2.1 dX16_fill_250 (by decide) ?_
          refine r_cV C X hm hs mlX16_293 mvX16_293 hh (vv := fun r => some (.int r.1)) (hp := fun r => r.2) (fun b r hg => c_X16_refused l G h b _ r hg) rfl rfl (Nat.le_of_ble_eq_true rfl) (Nat.le_of_ble_eq_true rfl) (Nat.le_of_ble_eq_true rfl) hl.1 dX16_fill_252 (fun b25 r24 H locs hgr24 hh hm hs => ?_)
          refine W.eq (g2 := F0 m 255 ls [.int r24.1]) rfl ?_
          exact r_iretW hQ C hr hm hs hh dX16_fill_255
      · rw [if_neg c34] at hh
        refine r_aload_n C.1 C.2.1 dX16_fill_165 rfl (lv_at hl 0 rfl) ?_
        refine lv_iload_n C.1 C.2.1 dX16_fill_166 rfl (lv_at hl 1 rfl) ?_
        refine lv_iload C.1 C.2.1 dX16_fill_167 (lv_at hl 6 rfl) ?_
        refine lv_iload_n C.1 C.2.1 dX16_fill_169 rfl (lv_at hl 3 rfl) ?_
        refine lv_iconst (v := 1) C.1 C.2.1 dX16_fill_170 (by decide) ?_
        refine r_aload_n C.1 C.2.1 dX16_fill_171 rfl (lv_at hl 0 rfl) ?_
        refine r_getR C hm flX16_274 dX16_fill_172 hh (fun x27 _ hh => ?_)
        refine r_getI C hm flX16_218 dX16_fill_175 hh (fun x28 _ hh => ?_)
        refine lv_ishl C.1 C.2.1 dX16_fill_178 ?_
        refine lv_iconst (v := 1) C.1 C.2.1 dX16_fill_179 (by decide) ?_
        refine lv_isub C.1 C.2.1 dX16_fill_180 ?_
        refine r_cV C X hm hs mlX16_376 mvX16_376 hh (vv := fun r => some (.int r.1)) (hp := fun r => r.2) (fun b r hg => c_X16_unlike l G h b _ _ _ _ r hg) rfl rfl (Nat.le_of_ble_eq_true rfl) (Nat.le_of_ble_eq_true rfl) (Nat.le_of_ble_eq_true rfl) hl.1 dX16_fill_181 (fun b30 r29 H locs hgr29 hh hm hs => ?_)
        refine W.eq (g2 := F0 m 184 ls [.int r29.1]) rfl ?_
        refine lv_istore (i := 7) (lv' := [(7, .int r29.1), (0, va_rf (some a0)), (1, .int v1), (2, .int v2), (3, .int v3), (4, .int v4), (5, .int v5), (6, .int v6)]) C.1 C.2.1 dX16_fill_184 hl (by decide) rfl (fun ls hl => ?_)
        refine lv_iload C.1 C.2.1 dX16_fill_186 (lv_at hl 0 rfl) ?_
        refine lv_iconst (v := (-1)) C.1 C.2.1 dX16_fill_188 (by decide) ?_
        refine lv_icmp_eq (tgt := 238) C.1 C.2.1 dX16_fill_189 (by decide) (fun c33 => ?_) (fun c33 => ?_)
        · rw [if_pos c33] at hh
          exact B238 _ ih _ _ _ _ _ _ _ _ _ _ _  hm hs (lv_sub hl [1, 2, 3, 4, 5, 6, 7] rfl) hh
        · rw [if_neg c33] at hh
          refine lv_iload C.1 C.2.1 dX16_fill_192 (lv_at hl 5 rfl) ?_
          refine lv_if_le (tgt := 207) C.1 C.2.1 dX16_fill_194 (by decide) (fun c32 => ?_) (fun c32 => ?_)
          · rw [if_pos c32] at hh
            exact B207 _ ih _ _ _ _ _ _ _ _ _ _ _ _  hm hs (lv_sub hl [1, 2, 3, 4, 5, 6, 7, 0] rfl) hh
          · rw [if_neg c32] at hh
            refine lv_iload C.1 C.2.1 dX16_fill_197 (lv_at hl 0 rfl) ?_
            refine lv_iload C.1 C.2.1 dX16_fill_199 (lv_at hl 6 rfl) ?_
            refine lv_icmp_le (tgt := 207) C.1 C.2.1 dX16_fill_201 (by decide) (fun c31 => ?_) (fun c31 => ?_)
            · rw [if_pos c31] at hh
              exact B207 _ ih _ _ _ _ _ _ _ _ _ _ _ _  hm hs (lv_sub hl [1, 2, 3, 4, 5, 6, 7, 0] rfl) hh
            · rw [if_neg c31] at hh
              refine lv_goto (tgt := 238) C.1 C.2.1 dX16_fill_204 (by decide) ?_
              exact B238 _ ih _ _ _ _ _ _ _ _ _ _ _  hm hs (lv_sub hl [1, 2, 3, 4, 5, 6, 7] rfl) hh
  have B107 : ∀ n : Nat, ∀ (h : MHp) (H : Heap) (locs : List Loc) (ls : Array Slot) (a0 : Nat) (v1 : Int32) (v2 : Int32) (v3 : Int32) (v4 : Int32) , mHp (gD G) (gC G) (gB G) h H → va_S (fun q => gB G ≤ q) s.heap H locs → lv_has ls 8 [(0, va_rf (some a0)), (1, .int v1), (2, .int v2), (3, .int v3), (4, .int v4)] → mX16_fill_l107 n h a0 v1 v2 v3 v4 = some res → W p l e ({ frames := 3, cells := 0, slots := 0, locals := 77 }) s m args below meth c H locs 0 0 Q (F0 m 107 ls []) := by
    intro n
    induction n with
    | zero => intro h H locs ls a0 v1 v2 v3 v4 hm hs hl hh; cases hh
    | succ n ih =>
      intro h H locs ls a0 v1 v2 v3 v4 hm hs hl hh
      unfold mX16_fill_l107 at hh
      refine lv_iload C.1 C.2.1 dX16_fill_107 (lv_at hl 4 rfl) ?_
      refine r_aload_n C.1 C.2.1 dX16_fill_109 rfl (lv_at hl 0 rfl) ?_
      refine r_getR C hm flX16_274 dX16_fill_110 hh (fun x35 _ hh => ?_)
      refine r_getI C hm flX16_218 dX16_fill_113 hh (fun x36 _ hh => ?_)
      refine lv_icmp_ge (tgt := 147) C.1 C.2.1 dX16_fill_116 (by decide) (fun c40 => ?_) (fun c40 => ?_)
      · rw [if_pos c40] at hh
        refine lv_iconst (v := 0) C.1 C.2.1 dX16_fill_147 (by decide) ?_
        refine lv_istore (i := 4) (lv' := [(4, .int 0), (0, va_rf (some a0)), (1, .int v1), (2, .int v2), (3, .int v3)]) C.1 C.2.1 dX16_fill_148 hl (by decide) rfl (fun ls hl => ?_)
        refine lv_iconst (v := 0) C.1 C.2.1 dX16_fill_150 (by decide) ?_
        refine lv_istore (i := 5) (lv' := [(5, .int 0), (4, .int 0), (0, va_rf (some a0)), (1, .int v1), (2, .int v2), (3, .int v3)]) C.1 C.2.1 dX16_fill_151 hl (by decide) rfl (fun ls hl => ?_)
        refine lv_iconst (v := 0) C.1 C.2.1 dX16_fill_153 (by decide) ?_
        refine lv_istore (i := 6) (lv' := [(6, .int 0), (5, .int 0), (4, .int 0), (0, va_rf (some a0)), (1, .int v1), (2, .int v2), (3, .int v3)]) C.1 C.2.1 dX16_fill_154 hl (by decide) rfl (fun ls hl => ?_)
        exact B156 FUEL _ _ _ _ _ _ _ _ _ _ _  hm hs (lv_sub hl [3, 4, 5, 6, 2, 1, 0] rfl) hh
      · rw [if_neg c40] at hh
        refine lv_iload_n C.1 C.2.1 dX16_fill_119 rfl (lv_at hl 3 rfl) ?_
        refine r_aload_n C.1 C.2.1 dX16_fill_120 rfl (lv_at hl 0 rfl) ?_
        refine r_getR C hm flX16_58 dX16_fill_121 hh (fun x37 _ hh => ?_)
        refine lv_iload C.1 C.2.1 dX16_fill_124 (lv_at hl 4 rfl) ?_
        refine r_ald C hm dX16_fill_126 hh (fun x38 _ hh => ?_)
        refine lv_iconst (v := (-1)) C.1 C.2.1 dX16_fill_127 (by decide) ?_
        refine lv_icmp_ne (tgt := 138) C.1 C.2.1 dX16_fill_128 (by decide) (fun c39 => ?_) (fun c39 => ?_)
        · rw [if_neg c39] at hh
          refine lv_iconst (v := 0) C.1 C.2.1 dX16_fill_138 (by decide) ?_
          exact B139 _ ih _ _ _ _ _ _ _ _ _ _  hm hs (lv_sub hl [0, 1, 2, 4] rfl) hh
        · rw [if_pos c39] at hh
          refine lv_iconst (v := 1) C.1 C.2.1 dX16_fill_131 (by decide) ?_
          refine lv_iload C.1 C.2.1 dX16_fill_132 (lv_at hl 4 rfl) ?_
          refine lv_ishl C.1 C.2.1 dX16_fill_134 ?_
          refine lv_goto (tgt := 139) C.1 C.2.1 dX16_fill_135 (by decide) ?_
          exact B139 _ ih _ _ _ _ _ _ _ _ _ _  hm hs (lv_sub hl [0, 1, 2, 4] rfl) hh
  unfold mX16_fill at hh
  refine r_aload_n C.1 C.2.1 dX16_fill_0 rfl (lv_at hl 0 rfl) ?_
  refine lv_iconst (v := 0) C.1 C.2.1 dX16_fill_1 (by decide) ?_
  refine r_putI C hm hs flX16_109 (Or.inl fm_17_0) dX16_fill_2 hh (fun h41 H locs _ hh hm hs => ?_)
  refine r_aload_n C.1 C.2.1 dX16_fill_5 rfl (lv_at hl 0 rfl) ?_
  refine lv_iload_n C.1 C.2.1 dX16_fill_6 rfl (lv_at hl 1 rfl) ?_
  refine r_cV C X hm hs mlX16_336 mvX16_336 hh (vv := fun r => some (.int r)) (hp := fun r => h41) (fun b r hg => c_X16_isRow l G h41 b _ r hg) rfl rfl (Nat.le_of_ble_eq_true rfl) (Nat.le_of_ble_eq_true rfl) (Nat.le_of_ble_eq_true rfl) hl.1 dX16_fill_7 (fun b43 r42 H locs hgr42 hh hm hs => ?_)
  refine W.eq (g2 := F0 m 10 ls [.int r42]) rfl ?_
  refine lv_if_ne (tgt := 19) C.1 C.2.1 dX16_fill_10 (by decide) (fun c69 => ?_) (fun c69 => ?_)
  · rw [if_neg c69] at hh
    refine lv_iload_n C.1 C.2.1 dX16_fill_19 rfl (lv_at hl 2 rfl) ?_
    refine lv_iconst (v := 0) C.1 C.2.1 dX16_fill_20 (by decide) ?_
    refine lv_sipush (v := 999) C.1 C.2.1 dX16_fill_21 (by decide) ?_
    refine r_cS C X hm hs mlX16_231 msX16_231 hh (vv := fun r => some (.int r)) (hp := fun r => h41) (fun r hg => c_X16_in l G h41 _ _ _ r hg) rfl rfl (Nat.le_of_ble_eq_true rfl) (Nat.le_of_ble_eq_true rfl) (Nat.le_of_ble_eq_true rfl) hl.1 dX16_fill_24 (fun r44 H locs hgr44 hh hm hs => ?_)
    refine W.eq (g2 := F0 m 27 ls [.int r44]) rfl ?_
    refine lv_if_ne (tgt := 36) C.1 C.2.1 dX16_fill_27 (by decide) (fun c66 => ?_) (fun c66 => ?_)
    · rw [if_neg c66] at hh
      refine r_aload_n C.1 C.2.1 dX16_fill_36 rfl (lv_at hl 0 rfl) ?_
      refine lv_iload_n C.1 C.2.1 dX16_fill_37 rfl (lv_at hl 1 rfl) ?_
      refine r_aload_n C.1 C.2.1 dX16_fill_38 rfl (lv_at hl 0 rfl) ?_
      refine r_getI C hm flX16_314 dX16_fill_39 hh (fun x45 _ hh => ?_)
      refine lv_iconst (v := 0) C.1 C.2.1 dX16_fill_42 (by decide) ?_
      refine r_aload_n C.1 C.2.1 dX16_fill_43 rfl (lv_at hl 0 rfl) ?_
      refine r_getR C hm flX16_58 dX16_fill_44 hh (fun x46 _ hh => ?_)
      refine r_cV C X hm hs mlX16_349 mvX16_349 hh (vv := fun r => none) (hp := fun r => r) (fun b r hg => c_X16_loads l G h41 b _ _ _ _ r hg) rfl rfl (Nat.le_of_ble_eq_true rfl) (Nat.le_of_ble_eq_true rfl) (Nat.le_of_ble_eq_true rfl) hl.1 dX16_fill_47 (fun b48 r47 H locs hgr47 hh hm hs => ?_)
      refine W.eq (g2 := F0 m 50 ls []) rfl ?_
      refine r_aload_n C.1 C.2.1 dX16_fill_50 rfl (lv_at hl 0 rfl) ?_
      refine r_aload_n C.1 C.2.1 dX16_fill_51 rfl (lv_at hl 0 rfl) ?_
      refine r_getR C hm flX16_58 dX16_fill_52 hh (fun x49 _ hh => ?_)
      refine r_cV C X hm hs mlX16_360 mvX16_360 hh (vv := fun r => some (.int r)) (hp := fun r => r47) (fun b r hg => c_X16_gapsOf l G r47 b _ r hg) rfl rfl (Nat.le_of_ble_eq_true rfl) (Nat.le_of_ble_eq_true rfl) (Nat.le_of_ble_eq_true rfl) hl.1 dX16_fill_55 (fun b51 r50 H locs hgr50 hh hm hs => ?_)
      refine W.eq (g2 := F0 m 58 ls [.int r50]) rfl ?_
      refine lv_if_eq (tgt := 96) C.1 C.2.1 dX16_fill_58 (by decide) (fun c63 => ?_) (fun c63 => ?_)
      · rw [if_pos c63] at hh
        exact B96 _ _ _ _ _  hm hs (lv_sub hl [0] rfl) hh
      · rw [if_neg c63] at hh
        refine r_aload_n C.1 C.2.1 dX16_fill_61 rfl (lv_at hl 0 rfl) ?_
        refine r_getR C hm flX16_274 dX16_fill_62 hh (fun x52 _ hh => ?_)
        refine r_aload_n C.1 C.2.1 dX16_fill_65 rfl (lv_at hl 0 rfl) ?_
        refine r_getR C hm flX16_58 dX16_fill_66 hh (fun x53 _ hh => ?_)
        refine r_cV C X hm hs mlX16_356 mvX16_356 hh (vv := fun r => some (.int r)) (hp := fun r => r47) (fun b r hg => c_X12_broken l G r47 b _ r hg) rfl rfl (Nat.le_of_ble_eq_true rfl) (Nat.le_of_ble_eq_true rfl) (Nat.le_of_ble_eq_true rfl) hl.1 dX16_fill_69 (fun b55 r54 H locs hgr54 hh hm hs => ?_)
        refine W.eq (g2 := F0 m 72 ls [.int r54]) rfl ?_
        refine lv_iconst (v := (-1)) C.1 C.2.1 dX16_fill_72 (by decide) ?_
        refine lv_icmp_ne (tgt := 96) C.1 C.2.1 dX16_fill_73 (by decide) (fun c62 => ?_) (fun c62 => ?_)
        · rw [if_neg c62] at hh
          exact B96 _ _ _ _ _  hm hs (lv_sub hl [0] rfl) hh
        · rw [if_pos c62] at hh
          refine r_aload_n C.1 C.2.1 dX16_fill_76 rfl (lv_at hl 0 rfl) ?_
          refine r_getR C hm flX16_43 dX16_fill_77 hh (fun x56 _ hh => ?_)
          refine lv_iload_n C.1 C.2.1 dX16_fill_80 rfl (lv_at hl 1 rfl) ?_
          refine r_ald C hm dX16_fill_81 hh (fun x57 _ hh => ?_)
          refine lv_iconst (v := (-1)) C.1 C.2.1 dX16_fill_82 (by decide) ?_
          refine lv_icmp_ne (tgt := 96) C.1 C.2.1 dX16_fill_83 (by decide) (fun c61 => ?_) (fun c61 => ?_)
          · rw [if_neg c61] at hh
            exact B96 _ _ _ _ _  hm hs (lv_sub hl [0] rfl) hh
          · rw [if_pos c61] at hh
            refine r_aload_n C.1 C.2.1 dX16_fill_86 rfl (lv_at hl 0 rfl) ?_
            refine r_getR C hm flX16_52 dX16_fill_87 hh (fun x58 _ hh => ?_)
            refine lv_iload_n C.1 C.2.1 dX16_fill_90 rfl (lv_at hl 1 rfl) ?_
            refine r_ald C hm dX16_fill_91 hh (fun x59 _ hh => ?_)
            refine lv_iconst (v := (-1)) C.1 C.2.1 dX16_fill_92 (by decide) ?_
            refine lv_icmp_eq (tgt := 102) C.1 C.2.1 dX16_fill_93 (by decide) (fun c60 => ?_) (fun c60 => ?_)
            · rw [if_pos c60] at hh
              refine lv_iconst (v := 0) C.1 C.2.1 dX16_fill_102 (by decide) ?_
              refine lv_istore_n (i := 3) (lv' := [(3, .int 0), (0, va_rf (some a0)), (1, .int a1), (2, .int a2)]) C.1 C.2.1 dX16_fill_103 rfl hl (by decide) rfl (fun ls hl => ?_)
              refine lv_iconst (v := 0) C.1 C.2.1 dX16_fill_104 (by decide) ?_
              refine lv_istore (i := 4) (lv' := [(4, .int 0), (3, .int 0), (0, va_rf (some a0)), (1, .int a1), (2, .int a2)]) C.1 C.2.1 dX16_fill_105 hl (by decide) rfl (fun ls hl => ?_)
              exact B107 FUEL _ _ _ _ _ _ _ _ _  hm hs (lv_sub hl [2, 3, 4, 1, 0] rfl) hh
            · rw [if_neg c60] at hh
              exact B96 _ _ _ _ _  hm hs (lv_sub hl [0] rfl) hh
    · rw [if_pos c66] at hh
      refine r_aload_n C.1 C.2.1 dX16_fill_30 rfl (lv_at hl 0 rfl) ?_
      refine lv_iconst (v := 2) C.1 C.2.1 dX16_fill_31 (by decide) ?_
      refine r_cV C X hm hs mlX16_293 mvX16_293 hh (vv := fun r => some (.int r.1)) (hp := fun r => r.2) (fun b r hg => c_X16_refused l G h41 b _ r hg) rfl rfl (Nat.le_of_ble_eq_true rfl) (Nat.le_of_ble_eq_true rfl) (Nat.le_of_ble_eq_true rfl) hl.1 dX16_fill_32 (fun b65 r64 H locs hgr64 hh hm hs => ?_)
      refine W.eq (g2 := F0 m 35 ls [.int r64.1]) rfl ?_
      exact r_iretW hQ C hr hm hs hh dX16_fill_35
  · rw [if_pos c69] at hh
    refine r_aload_n C.1 C.2.1 dX16_fill_13 rfl (lv_at hl 0 rfl) ?_
    refine lv_iconst (v := 1) C.1 C.2.1 dX16_fill_14 (by decide) ?_
    refine r_cV C X hm hs mlX16_293 mvX16_293 hh (vv := fun r => some (.int r.1)) (hp := fun r => r.2) (fun b r hg => c_X16_refused l G h41 b _ r hg) rfl rfl (Nat.le_of_ble_eq_true rfl) (Nat.le_of_ble_eq_true rfl) (Nat.le_of_ble_eq_true rfl) hl.1 dX16_fill_15 (fun b68 r67 H locs hgr67 hh hm hs => ?_)
    refine W.eq (g2 := F0 m 18 ls [.int r67.1]) rfl ?_
    exact r_iretW hQ C hr hm hs hh dX16_fill_18
def mX16_pass_b40 (h : MHp) (a0 : Nat) : Option (Int32 × MHp) := (rcv 17 h (some a0)).bind fun b2 => (mX16_refused h b2 2).bind fun r1 => some (r1.1, r1.2)
def mX16_pass (h : MHp) (a0 : Nat) (a1 : Int32) : Option (Int32 × MHp) := (pI 17 0 h (some a0) 0).bind fun h3 => (gR 17 4 h3 (some a0)).bind fun x4 => (if x4 = none then (rcv 17 h3 (some a0)).bind fun b15 => (mX16_refused h3 b15 1).bind fun r14 => some (r14.1, r14.2) else (mX16_in h3 a1 1 100).bind fun r5 => (if r5 = 0 then mX16_pass_b40 h3 a0 else (gI 17 19 h3 (some a0)).bind fun x6 => (if (x6 + a1) ≤ 999 then (gI 17 19 h3 (some a0)).bind fun x7 => (pI 17 19 h3 (some a0) (x7 + a1)).bind fun h8 => (gI 17 19 h8 (some a0)).bind fun x9 => (rcv 17 h8 (some a0)).bind fun b11 => (mX16_done h8 b11 x9).bind fun r10 => some (r10.1, r10.2) else mX16_pass_b40 h3 a0)))
set_option maxRecDepth 100000 in
set_option maxHeartbeats 4000000 in
theorem c_X16_pass (l : Launch) (G : Env0) (h : MHp) (a0 : Nat) (a1 : Int32) (res : Int32 × MHp) (hh : mX16_pass h a0 a1 = some res) : MG l yX16_pass cX16_pass 2 (some .int) 1 22 0 0 G h [.ref a0, .int a1] (some (.int res.1)) (res.2) := by
  refine MG_of (own := RX16) (plainFor_of_name (by decide)) rfl (Nat.le_of_ble_eq_true rfl) ?_
  intro p e s m args below meth c Q ls hQ C X hin hm hs hl hr
  have hl : lv_has ls 2 [(0, va_rf (some a0)), (1, .int a1)] := hl
  have B40 : ∀ (h : MHp) (H : Heap) (locs : List Loc) (ls : Array Slot) (a0 : Nat) , mHp (gD G) (gC G) (gB G) h H → va_S (fun q => gB G ≤ q) s.heap H locs → lv_has ls 2 [(0, va_rf (some a0))] → mX16_pass_b40 h a0 = some res → W p l e ({ frames := 1, cells := 0, slots := 0, locals := 22 }) s m args below meth c H locs 0 0 Q (F0 m 40 ls []) := by
    intro h H locs ls a0 hm hs hl hh
    unfold mX16_pass_b40 at hh
    refine r_aload_n C.1 C.2.1 dX16_pass_40 rfl (lv_at hl 0 rfl) ?_
    refine lv_iconst (v := 2) C.1 C.2.1 dX16_pass_41 (by decide) ?_
    refine r_cV C X hm hs mlX16_293 mvX16_293 hh (vv := fun r => some (.int r.1)) (hp := fun r => r.2) (fun b r hg => c_X16_refused l G h b _ r hg) rfl rfl (Nat.le_of_ble_eq_true rfl) (Nat.le_of_ble_eq_true rfl) (Nat.le_of_ble_eq_true rfl) hl.1 dX16_pass_42 (fun b2 r1 H locs hgr1 hh hm hs => ?_)
    refine W.eq (g2 := F0 m 45 ls [.int r1.1]) rfl ?_
    exact r_iretW hQ C hr hm hs hh dX16_pass_45
  unfold mX16_pass at hh
  refine r_aload_n C.1 C.2.1 dX16_pass_0 rfl (lv_at hl 0 rfl) ?_
  refine lv_iconst (v := 0) C.1 C.2.1 dX16_pass_1 (by decide) ?_
  refine r_putI C hm hs flX16_109 (Or.inl fm_17_0) dX16_pass_2 hh (fun h3 H locs _ hh hm hs => ?_)
  refine r_aload_n C.1 C.2.1 dX16_pass_5 rfl (lv_at hl 0 rfl) ?_
  refine r_getR C hm flX16_274 dX16_pass_6 hh (fun x4 _ hh => ?_)
  refine r_ifnonnull (tgt := 18) C.1 C.2.1 dX16_pass_9 (by decide) (fun c16 => ?_) (fun c16 => ?_)
  · rw [if_neg c16] at hh
    refine lv_iload_n C.1 C.2.1 dX16_pass_18 rfl (lv_at hl 1 rfl) ?_
    refine lv_iconst (v := 1) C.1 C.2.1 dX16_pass_19 (by decide) ?_
    refine lv_bipush (v := 100) C.1 C.2.1 dX16_pass_20 (by decide) ?_
    refine r_cS C X hm hs mlX16_231 msX16_231 hh (vv := fun r => some (.int r)) (hp := fun r => h3) (fun r hg => c_X16_in l G h3 _ _ _ r hg) rfl rfl (Nat.le_of_ble_eq_true rfl) (Nat.le_of_ble_eq_true rfl) (Nat.le_of_ble_eq_true rfl) hl.1 dX16_pass_22 (fun r5 H locs hgr5 hh hm hs => ?_)
    refine W.eq (g2 := F0 m 25 ls [.int r5]) rfl ?_
    refine lv_if_eq (tgt := 40) C.1 C.2.1 dX16_pass_25 (by decide) (fun c13 => ?_) (fun c13 => ?_)
    · rw [if_pos c13] at hh
      exact B40 _ _ _ _ _  hm hs (lv_sub hl [0] rfl) hh
    · rw [if_neg c13] at hh
      refine r_aload_n C.1 C.2.1 dX16_pass_28 rfl (lv_at hl 0 rfl) ?_
      refine r_getI C hm flX16_314 dX16_pass_29 hh (fun x6 _ hh => ?_)
      refine lv_iload_n C.1 C.2.1 dX16_pass_32 rfl (lv_at hl 1 rfl) ?_
      refine lv_iadd C.1 C.2.1 dX16_pass_33 ?_
      refine lv_sipush (v := 999) C.1 C.2.1 dX16_pass_34 (by decide) ?_
      refine lv_icmp_le (tgt := 46) C.1 C.2.1 dX16_pass_37 (by decide) (fun c12 => ?_) (fun c12 => ?_)
      · rw [if_pos c12] at hh
        refine r_aload_n C.1 C.2.1 dX16_pass_46 rfl (lv_at hl 0 rfl) ?_
        refine lv_dup C.1 C.2.1 dX16_pass_47 (va_cat _) ?_
        refine r_getI C hm flX16_314 dX16_pass_48 hh (fun x7 _ hh => ?_)
        refine lv_iload_n C.1 C.2.1 dX16_pass_51 rfl (lv_at hl 1 rfl) ?_
        refine lv_iadd C.1 C.2.1 dX16_pass_52 ?_
        refine r_putI C hm hs flX16_314 (Or.inl fm_17_19) dX16_pass_53 hh (fun h8 H locs _ hh hm hs => ?_)
        refine r_aload_n C.1 C.2.1 dX16_pass_56 rfl (lv_at hl 0 rfl) ?_
        refine r_aload_n C.1 C.2.1 dX16_pass_57 rfl (lv_at hl 0 rfl) ?_
        refine r_getI C hm flX16_314 dX16_pass_58 hh (fun x9 _ hh => ?_)
        refine r_cV C X hm hs mlX16_323 mvX16_323 hh (vv := fun r => some (.int r.1)) (hp := fun r => r.2) (fun b r hg => c_X16_done l G h8 b _ r hg) rfl rfl (Nat.le_of_ble_eq_true rfl) (Nat.le_of_ble_eq_true rfl) (Nat.le_of_ble_eq_true rfl) hl.1 dX16_pass_61 (fun b11 r10 H locs hgr10 hh hm hs => ?_)
        refine W.eq (g2 := F0 m 64 ls [.int r10.1]) rfl ?_
        exact r_iretW hQ C hr hm hs hh dX16_pass_64
      · rw [if_neg c12] at hh
        exact B40 _ _ _ _ _  hm hs (lv_sub hl [0] rfl) hh
  · rw [if_pos c16] at hh
    refine r_aload_n C.1 C.2.1 dX16_pass_12 rfl (lv_at hl 0 rfl) ?_
    refine lv_iconst (v := 1) C.1 C.2.1 dX16_pass_13 (by decide) ?_
    refine r_cV C X hm hs mlX16_293 mvX16_293 hh (vv := fun r => some (.int r.1)) (hp := fun r => r.2) (fun b r hg => c_X16_refused l G h3 b _ r hg) rfl rfl (Nat.le_of_ble_eq_true rfl) (Nat.le_of_ble_eq_true rfl) (Nat.le_of_ble_eq_true rfl) hl.1 dX16_pass_14 (fun b15 r14 H locs hgr14 hh hm hs => ?_)
    refine W.eq (g2 := F0 m 17 ls [.int r14.1]) rfl ?_
    exact r_iretW hQ C hr hm hs hh dX16_pass_17
def mX16_isTable (h : MHp) (a0 : Nat) (a1 : Int32) : Option (Int32) := (if a1 < 0 then some 0 else (gI 17 7 h (some a0)).bind fun x1 => (if x1 ≤ a1 then some 0 else some 1))
set_option maxRecDepth 100000 in
set_option maxHeartbeats 4000000 in
theorem c_X16_isTable (l : Launch) (G : Env0) (h : MHp) (a0 : Nat) (a1 : Int32) (res : Int32) (hh : mX16_isTable h a0 a1 = some res) : MG l yX16_isTable cX16_isTable 2 (some .boolean) 0 0 0 0 G h [.ref a0, .int a1] (some (.int res)) (h) := by
  refine MG_of (own := RX16) (plainFor_of_name (by decide)) rfl (Nat.le_of_ble_eq_true rfl) ?_
  intro p e s m args below meth c Q ls hQ C X hin hm hs hl hr
  have hl : lv_has ls 2 [(0, va_rf (some a0)), (1, .int a1)] := hl
  unfold mX16_isTable at hh
  refine lv_iload_n C.1 C.2.1 dX16_isTable_0 rfl (lv_at hl 1 rfl) ?_
  refine lv_if_lt (tgt := 16) C.1 C.2.1 dX16_isTable_1 (by decide) (fun c3 => ?_) (fun c3 => ?_)
  · rw [if_pos c3] at hh
    refine lv_iconst (v := 0) C.1 C.2.1 dX16_isTable_16 (by decide) ?_
    exact r_bretP hQ C hr hm hs (by decide) hh dX16_isTable_17
  · rw [if_neg c3] at hh
    refine lv_iload_n C.1 C.2.1 dX16_isTable_4 rfl (lv_at hl 1 rfl) ?_
    refine r_aload_n C.1 C.2.1 dX16_isTable_5 rfl (lv_at hl 0 rfl) ?_
    refine r_getI C hm flX16_311 dX16_isTable_6 hh (fun x1 _ hh => ?_)
    refine lv_icmp_ge (tgt := 16) C.1 C.2.1 dX16_isTable_9 (by decide) (fun c2 => ?_) (fun c2 => ?_)
    · rw [if_pos c2] at hh
      refine lv_iconst (v := 0) C.1 C.2.1 dX16_isTable_16 (by decide) ?_
      exact r_bretP hQ C hr hm hs (by decide) hh dX16_isTable_17
    · rw [if_neg c2] at hh
      refine lv_iconst (v := 1) C.1 C.2.1 dX16_isTable_12 (by decide) ?_
      refine lv_goto (tgt := 17) C.1 C.2.1 dX16_isTable_13 (by decide) ?_
      exact r_bretP hQ C hr hm hs (by decide) hh dX16_isTable_17
def mX16_valuesOf (h : MHp) (a0 : Nat) (a1 : Int32) : Option (Int32) := (if a1 = (-1) then some 1 else (gR 17 4 h (some a0)).bind fun x1 => (gR 13 3 h x1).bind fun x2 => (gAI 20 h x2 a1).bind fun x3 => some (x3 + 1))
set_option maxRecDepth 100000 in
set_option maxHeartbeats 4000000 in
theorem c_X16_valuesOf (l : Launch) (G : Env0) (h : MHp) (a0 : Nat) (a1 : Int32) (res : Int32) (hh : mX16_valuesOf h a0 a1 = some res) : MG l yX16_valuesOf cX16_valuesOf 2 (some .int) 0 0 0 0 G h [.ref a0, .int a1] (some (.int res)) (h) := by
  refine MG_of (own := RX16) (plainFor_of_name (by decide)) rfl (Nat.le_of_ble_eq_true rfl) ?_
  intro p e s m args below meth c Q ls hQ C X hin hm hs hl hr
  have hl : lv_has ls 2 [(0, va_rf (some a0)), (1, .int a1)] := hl
  unfold mX16_valuesOf at hh
  refine lv_iload_n C.1 C.2.1 dX16_valuesOf_0 rfl (lv_at hl 1 rfl) ?_
  refine lv_iconst (v := (-1)) C.1 C.2.1 dX16_valuesOf_1 (by decide) ?_
  refine lv_icmp_ne (tgt := 9) C.1 C.2.1 dX16_valuesOf_2 (by decide) (fun c4 => ?_) (fun c4 => ?_)
  · rw [if_neg c4] at hh
    refine r_aload_n C.1 C.2.1 dX16_valuesOf_9 rfl (lv_at hl 0 rfl) ?_
    refine r_getR C hm flX16_274 dX16_valuesOf_10 hh (fun x1 _ hh => ?_)
    refine r_getR C hm flX16_235 dX16_valuesOf_13 hh (fun x2 _ hh => ?_)
    refine lv_iload_n C.1 C.2.1 dX16_valuesOf_16 rfl (lv_at hl 1 rfl) ?_
    refine r_ald C hm dX16_valuesOf_17 hh (fun x3 _ hh => ?_)
    refine lv_iconst (v := 1) C.1 C.2.1 dX16_valuesOf_18 (by decide) ?_
    refine lv_iadd C.1 C.2.1 dX16_valuesOf_19 ?_
    exact r_iretP hQ C hr hm hs hh dX16_valuesOf_20
  · rw [if_pos c4] at hh
    refine lv_iconst (v := 1) C.1 C.2.1 dX16_valuesOf_5 (by decide) ?_
    refine lv_goto (tgt := 20) C.1 C.2.1 dX16_valuesOf_6 (by decide) ?_
    exact r_iretP hQ C hr hm hs hh dX16_valuesOf_20
def mX16_isCell (h : MHp) (a0 : Nat) (a1 : Int32) (a2 : Int32) (a3 : Int32) : Option (Int32) := (rcv 17 h (some a0)).bind fun b2 => (mX16_isTable h b2 a1).bind fun r1 => (if r1 = 0 then some 0 else (gR 17 6 h (some a0)).bind fun x3 => (gAR 26 h x3 a1).bind fun x4 => (gI 15 1 h x4).bind fun x5 => (rcv 17 h (some a0)).bind fun b7 => (mX16_valuesOf h b7 x5).bind fun r6 => (mX16_in h a2 0 (r6 - 1)).bind fun r8 => (if r8 = 0 then some 0 else (gR 17 6 h (some a0)).bind fun x9 => (gAR 26 h x9 a1).bind fun x10 => (gI 15 2 h x10).bind fun x11 => (rcv 17 h (some a0)).bind fun b13 => (mX16_valuesOf h b13 x11).bind fun r12 => (mX16_in h a3 0 (r12 - 1)).bind fun r14 => (if r14 = 0 then some 0 else some 1)))
set_option maxRecDepth 100000 in
set_option maxHeartbeats 4000000 in
theorem c_X16_isCell (l : Launch) (G : Env0) (h : MHp) (a0 : Nat) (a1 : Int32) (a2 : Int32) (a3 : Int32) (res : Int32) (hh : mX16_isCell h a0 a1 a2 a3 = some res) : MG l yX16_isCell cX16_isCell 4 (some .boolean) 1 22 0 0 G h [.ref a0, .int a1, .int a2, .int a3] (some (.int res)) (h) := by
  refine MG_of (own := RX16) (plainFor_of_name (by decide)) rfl (Nat.le_of_ble_eq_true rfl) ?_
  intro p e s m args below meth c Q ls hQ C X hin hm hs hl hr
  have hl : lv_has ls 4 [(0, va_rf (some a0)), (1, .int a1), (2, .int a2), (3, .int a3)] := hl
  unfold mX16_isCell at hh
  refine r_aload_n C.1 C.2.1 dX16_isCell_0 rfl (lv_at hl 0 rfl) ?_
  refine lv_iload_n C.1 C.2.1 dX16_isCell_1 rfl (lv_at hl 1 rfl) ?_
  refine r_cV C X hm hs mlX16_379 mvX16_379 hh (vv := fun r => some (.int r)) (hp := fun r => h) (fun b r hg => c_X16_isTable l G h b _ r hg) rfl rfl (Nat.le_of_ble_eq_true rfl) (Nat.le_of_ble_eq_true rfl) (Nat.le_of_ble_eq_true rfl) hl.1 dX16_isCell_2 (fun b2 r1 H locs hgr1 hh hm hs => ?_)
  refine W.eq (g2 := F0 m 5 ls [.int r1]) rfl ?_
  refine lv_if_eq (tgt := 58) C.1 C.2.1 dX16_isCell_5 (by decide) (fun c17 => ?_) (fun c17 => ?_)
  · rw [if_pos c17] at hh
    refine lv_iconst (v := 0) C.1 C.2.1 dX16_isCell_58 (by decide) ?_
    exact r_bretP hQ C hr hm hs (by decide) hh dX16_isCell_59
  · rw [if_neg c17] at hh
    refine lv_iload_n C.1 C.2.1 dX16_isCell_8 rfl (lv_at hl 2 rfl) ?_
    refine lv_iconst (v := 0) C.1 C.2.1 dX16_isCell_9 (by decide) ?_
    refine r_aload_n C.1 C.2.1 dX16_isCell_10 rfl (lv_at hl 0 rfl) ?_
    refine r_aload_n C.1 C.2.1 dX16_isCell_11 rfl (lv_at hl 0 rfl) ?_
    refine r_getR C hm flX16_15 dX16_isCell_12 hh (fun x3 _ hh => ?_)
    refine lv_iload_n C.1 C.2.1 dX16_isCell_15 rfl (lv_at hl 1 rfl) ?_
    refine r_ald_q C hm dX16_isCell_16 (kd := 26) (by decide) (t0 := 6) rfl hh (fun x4 _ hh => ?_)
    refine r_getI C hm flX16_279 dX16_isCell_17 hh (fun x5 _ hh => ?_)
    refine r_cV C X hm hs mlX16_382 mvX16_382 hh (vv := fun r => some (.int r)) (hp := fun r => h) (fun b r hg => c_X16_valuesOf l G h b _ r hg) rfl rfl (Nat.le_of_ble_eq_true rfl) (Nat.le_of_ble_eq_true rfl) (Nat.le_of_ble_eq_true rfl) hl.1 dX16_isCell_20 (fun b7 r6 H locs hgr6 hh hm hs => ?_)
    refine W.eq (g2 := F0 m 23 ls [.int r6, .int 0, .int a2]) rfl ?_
    refine lv_iconst (v := 1) C.1 C.2.1 dX16_isCell_23 (by decide) ?_
    refine lv_isub C.1 C.2.1 dX16_isCell_24 ?_
    refine r_cS C X hm hs mlX16_231 msX16_231 hh (vv := fun r => some (.int r)) (hp := fun r => h) (fun r hg => c_X16_in l G h _ _ _ r hg) rfl rfl (Nat.le_of_ble_eq_true rfl) (Nat.le_of_ble_eq_true rfl) (Nat.le_of_ble_eq_true rfl) hl.1 dX16_isCell_25 (fun r8 H locs hgr8 hh hm hs => ?_)
    refine W.eq (g2 := F0 m 28 ls [.int r8]) rfl ?_
    refine lv_if_eq (tgt := 58) C.1 C.2.1 dX16_isCell_28 (by decide) (fun c16 => ?_) (fun c16 => ?_)
    · rw [if_pos c16] at hh
      refine lv_iconst (v := 0) C.1 C.2.1 dX16_isCell_58 (by decide) ?_
      exact r_bretP hQ C hr hm hs (by decide) hh dX16_isCell_59
    · rw [if_neg c16] at hh
      refine lv_iload_n C.1 C.2.1 dX16_isCell_31 rfl (lv_at hl 3 rfl) ?_
      refine lv_iconst (v := 0) C.1 C.2.1 dX16_isCell_32 (by decide) ?_
      refine r_aload_n C.1 C.2.1 dX16_isCell_33 rfl (lv_at hl 0 rfl) ?_
      refine r_aload_n C.1 C.2.1 dX16_isCell_34 rfl (lv_at hl 0 rfl) ?_
      refine r_getR C hm flX16_15 dX16_isCell_35 hh (fun x9 _ hh => ?_)
      refine lv_iload_n C.1 C.2.1 dX16_isCell_38 rfl (lv_at hl 1 rfl) ?_
      refine r_ald_q C hm dX16_isCell_39 (kd := 26) (by decide) (t0 := 6) rfl hh (fun x10 _ hh => ?_)
      refine r_getI C hm flX16_281 dX16_isCell_40 hh (fun x11 _ hh => ?_)
      refine r_cV C X hm hs mlX16_382 mvX16_382 hh (vv := fun r => some (.int r)) (hp := fun r => h) (fun b r hg => c_X16_valuesOf l G h b _ r hg) rfl rfl (Nat.le_of_ble_eq_true rfl) (Nat.le_of_ble_eq_true rfl) (Nat.le_of_ble_eq_true rfl) hl.1 dX16_isCell_43 (fun b13 r12 H locs hgr12 hh hm hs => ?_)
      refine W.eq (g2 := F0 m 46 ls [.int r12, .int 0, .int a3]) rfl ?_
      refine lv_iconst (v := 1) C.1 C.2.1 dX16_isCell_46 (by decide) ?_
      refine lv_isub C.1 C.2.1 dX16_isCell_47 ?_
      refine r_cS C X hm hs mlX16_231 msX16_231 hh (vv := fun r => some (.int r)) (hp := fun r => h) (fun r hg => c_X16_in l G h _ _ _ r hg) rfl rfl (Nat.le_of_ble_eq_true rfl) (Nat.le_of_ble_eq_true rfl) (Nat.le_of_ble_eq_true rfl) hl.1 dX16_isCell_48 (fun r14 H locs hgr14 hh hm hs => ?_)
      refine W.eq (g2 := F0 m 51 ls [.int r14]) rfl ?_
      refine lv_if_eq (tgt := 58) C.1 C.2.1 dX16_isCell_51 (by decide) (fun c15 => ?_) (fun c15 => ?_)
      · rw [if_pos c15] at hh
        refine lv_iconst (v := 0) C.1 C.2.1 dX16_isCell_58 (by decide) ?_
        exact r_bretP hQ C hr hm hs (by decide) hh dX16_isCell_59
      · rw [if_neg c15] at hh
        refine lv_iconst (v := 1) C.1 C.2.1 dX16_isCell_54 (by decide) ?_
        refine lv_goto (tgt := 59) C.1 C.2.1 dX16_isCell_55 (by decide) ?_
        exact r_bretP hQ C hr hm hs (by decide) hh dX16_isCell_59
def mX16_isIn_b106 (h : MHp) (a0 : Nat) (v1 : Option Nat) : Option (Int32 × MHp) := (gI 15 0 h v1).bind fun x1 => (if x1 = (-1) then some (1, h) else (gR 17 29 h (some a0)).bind fun x2 => (gI 15 0 h v1).bind fun x3 => (gAI 20 h x2 x3).bind fun x4 => (if x4 = (-1) then some (0, h) else some (1, h)))
def mX16_isIn_b84 (h : MHp) (a0 : Nat) (v1 : Option Nat) (v4 : Int32) : Option (Int32 × MHp) := (gI 15 2 h v1).bind fun x7 => (if x7 = (-1) then mX16_isIn_b106 h a0 v1 else (gR 17 29 h (some a0)).bind fun x8 => (gI 15 2 h v1).bind fun x9 => (gAI 20 h x8 x9).bind fun x10 => (if x10 = v4 then mX16_isIn_b106 h a0 v1 else some (0, h)))
def mX16_isIn_b63 (h : MHp) (a0 : Nat) (v1 : Option Nat) (v3 : Int32) (v4 : Int32) : Option (Int32 × MHp) := (gI 15 1 h v1).bind fun x13 => (if x13 = (-1) then mX16_isIn_b84 h a0 v1 v4 else (gR 17 29 h (some a0)).bind fun x14 => (gI 15 1 h v1).bind fun x15 => (gAI 20 h x14 x15).bind fun x16 => (if x16 = v3 then mX16_isIn_b84 h a0 v1 v4 else some (0, h)))
def mX16_isIn (h : MHp) (a0 : Nat) (a1 : Option Nat) (a2 : Int32) (a3 : Int32) (a4 : Int32) (a5 : Int32) (a6 : Int32) : Option (Int32 × MHp) := (rcv 17 h (some a0)).bind fun b20 => (mX16_isThere h b20 a2 a5).bind fun r19 => (if r19 = 0 then some (0, h) else (gR 17 29 h (some a0)).bind fun x21 => (rcv 17 h (some a0)).bind fun b23 => (mX16_loads h b23 a2 a5 a6 x21).bind fun r22 => (gR 17 4 r22 (some a0)).bind fun x24 => (gR 17 29 r22 (some a0)).bind fun x25 => (rcv 13 r22 x24).bind fun b27 => (mX12_broken r22 b27 x25).bind fun r26 => (if r26 = (-1) then (gR 15 3 r22 a1).bind fun x28 => (if x28 = none then mX16_isIn_b63 r22 a0 a1 a3 a4 else (gR 15 3 r22 a1).bind fun x29 => (gR 17 29 r22 (some a0)).bind fun x30 => (rcv 16 r22 x29).bind fun b32 => (mX15_holds r22 b32 x30).bind fun r31 => (if r31 = 0 then some (0, r22) else mX16_isIn_b63 r22 a0 a1 a3 a4)) else some (0, r22)))
set_option maxRecDepth 100000 in
set_option maxHeartbeats 4000000 in
theorem c_X16_isIn (l : Launch) (G : Env0) (h : MHp) (a0 : Nat) (a1 : Option Nat) (a2 : Int32) (a3 : Int32) (a4 : Int32) (a5 : Int32) (a6 : Int32) (res : Int32 × MHp) (hh : mX16_isIn h a0 a1 a2 a3 a4 a5 a6 = some res) : MG l yX16_isIn cX16_isIn 7 (some .boolean) 2 50 0 0 G h [.ref a0, va_rf a1, .int a2, .int a3, .int a4, .int a5, .int a6] (some (.int res.1)) (res.2) := by
  refine MG_of (own := RX16) (plainFor_of_name (by decide)) rfl (by simp [lg_sl, va_cat, vc_i, vc_l, vc_r]) ?_
  intro p e s m args below meth c Q ls hQ C X hin hm hs hl hr
  have hl : lv_has ls 7 [(0, .ref a0), (1, va_rf a1), (2, .int a2), (3, .int a3), (4, .int a4), (5, .int a5), (6, .int a6)] := by simpa [lv_args, va_cat, vc_i, vc_l, vc_r] using hl
  have hl : lv_has ls 7 [(0, va_rf (some a0)), (1, va_rf a1), (2, .int a2), (3, .int a3), (4, .int a4), (5, .int a5), (6, .int a6)] := hl
  have B106 : ∀ (h : MHp) (H : Heap) (locs : List Loc) (ls : Array Slot) (a0 : Nat) (v1 : Option Nat) , mHp (gD G) (gC G) (gB G) h H → va_S (fun q => gB G ≤ q) s.heap H locs → lv_has ls 7 [(0, va_rf (some a0)), (1, va_rf v1)] → mX16_isIn_b106 h a0 v1 = some res → W p l e ({ frames := 2, cells := 0, slots := 0, locals := 50 }) s m args below meth c H locs 0 0 Q (F0 m 106 ls []) := by
    intro h H locs ls a0 v1 hm hs hl hh
    unfold mX16_isIn_b106 at hh
    refine r_aload_n C.1 C.2.1 dX16_isIn_106 rfl (lv_at hl 1 rfl) ?_
    refine r_getI C hm flX16_277 dX16_isIn_107 hh (fun x1 _ hh => ?_)
    refine lv_iconst (v := (-1)) C.1 C.2.1 dX16_isIn_110 (by decide) ?_
    refine lv_icmp_eq (tgt := 127) C.1 C.2.1 dX16_isIn_111 (by decide) (fun c6 => ?_) (fun c6 => ?_)
    · rw [if_pos c6] at hh
      refine lv_iconst (v := 1) C.1 C.2.1 dX16_isIn_127 (by decide) ?_
      refine lv_goto (tgt := 132) C.1 C.2.1 dX16_isIn_128 (by decide) ?_
      exact r_bretW hQ C hr hm hs (by decide) hh dX16_isIn_132
    · rw [if_neg c6] at hh
      refine r_aload_n C.1 C.2.1 dX16_isIn_114 rfl (lv_at hl 0 rfl) ?_
      refine r_getR C hm flX16_58 dX16_isIn_115 hh (fun x2 _ hh => ?_)
      refine r_aload_n C.1 C.2.1 dX16_isIn_118 rfl (lv_at hl 1 rfl) ?_
      refine r_getI C hm flX16_277 dX16_isIn_119 hh (fun x3 _ hh => ?_)
      refine r_ald C hm dX16_isIn_122 hh (fun x4 _ hh => ?_)
      refine lv_iconst (v := (-1)) C.1 C.2.1 dX16_isIn_123 (by decide) ?_
      refine lv_icmp_eq (tgt := 131) C.1 C.2.1 dX16_isIn_124 (by decide) (fun c5 => ?_) (fun c5 => ?_)
      · rw [if_pos c5] at hh
        refine lv_iconst (v := 0) C.1 C.2.1 dX16_isIn_131 (by decide) ?_
        exact r_bretW hQ C hr hm hs (by decide) hh dX16_isIn_132
      · rw [if_neg c5] at hh
        refine lv_iconst (v := 1) C.1 C.2.1 dX16_isIn_127 (by decide) ?_
        refine lv_goto (tgt := 132) C.1 C.2.1 dX16_isIn_128 (by decide) ?_
        exact r_bretW hQ C hr hm hs (by decide) hh dX16_isIn_132
  have B84 : ∀ (h : MHp) (H : Heap) (locs : List Loc) (ls : Array Slot) (a0 : Nat) (v1 : Option Nat) (v4 : Int32) , mHp (gD G) (gC G) (gB G) h H → va_S (fun q => gB G ≤ q) s.heap H locs → lv_has ls 7 [(0, va_rf (some a0)), (1, va_rf v1), (4, .int v4)] → mX16_isIn_b84 h a0 v1 v4 = some res → W p l e ({ frames := 2, cells := 0, slots := 0, locals := 50 }) s m args below meth c H locs 0 0 Q (F0 m 84 ls []) := by
    intro h H locs ls a0 v1 v4 hm hs hl hh
    unfold mX16_isIn_b84 at hh
    refine r_aload_n C.1 C.2.1 dX16_isIn_84 rfl (lv_at hl 1 rfl) ?_
    refine r_getI C hm flX16_281 dX16_isIn_85 hh (fun x7 _ hh => ?_)
    refine lv_iconst (v := (-1)) C.1 C.2.1 dX16_isIn_88 (by decide) ?_
    refine lv_icmp_eq (tgt := 106) C.1 C.2.1 dX16_isIn_89 (by decide) (fun c12 => ?_) (fun c12 => ?_)
    · rw [if_pos c12] at hh
      exact B106 _ _ _ _ _ _  hm hs (lv_sub hl [0, 1] rfl) hh
    · rw [if_neg c12] at hh
      refine r_aload_n C.1 C.2.1 dX16_isIn_92 rfl (lv_at hl 0 rfl) ?_
      refine r_getR C hm flX16_58 dX16_isIn_93 hh (fun x8 _ hh => ?_)
      refine r_aload_n C.1 C.2.1 dX16_isIn_96 rfl (lv_at hl 1 rfl) ?_
      refine r_getI C hm flX16_281 dX16_isIn_97 hh (fun x9 _ hh => ?_)
      refine r_ald C hm dX16_isIn_100 hh (fun x10 _ hh => ?_)
      refine lv_iload C.1 C.2.1 dX16_isIn_101 (lv_at hl 2 rfl) ?_
      refine lv_icmp_ne (tgt := 131) C.1 C.2.1 dX16_isIn_103 (by decide) (fun c11 => ?_) (fun c11 => ?_)
      · rw [if_neg c11] at hh
        refine lv_iconst (v := 0) C.1 C.2.1 dX16_isIn_131 (by decide) ?_
        exact r_bretW hQ C hr hm hs (by decide) hh dX16_isIn_132
      · rw [if_pos c11] at hh
        exact B106 _ _ _ _ _ _  hm hs (lv_sub hl [0, 1] rfl) hh
  have B63 : ∀ (h : MHp) (H : Heap) (locs : List Loc) (ls : Array Slot) (a0 : Nat) (v1 : Option Nat) (v3 : Int32) (v4 : Int32) , mHp (gD G) (gC G) (gB G) h H → va_S (fun q => gB G ≤ q) s.heap H locs → lv_has ls 7 [(0, va_rf (some a0)), (1, va_rf v1), (3, .int v3), (4, .int v4)] → mX16_isIn_b63 h a0 v1 v3 v4 = some res → W p l e ({ frames := 2, cells := 0, slots := 0, locals := 50 }) s m args below meth c H locs 0 0 Q (F0 m 63 ls []) := by
    intro h H locs ls a0 v1 v3 v4 hm hs hl hh
    unfold mX16_isIn_b63 at hh
    refine r_aload_n C.1 C.2.1 dX16_isIn_63 rfl (lv_at hl 1 rfl) ?_
    refine r_getI C hm flX16_279 dX16_isIn_64 hh (fun x13 _ hh => ?_)
    refine lv_iconst (v := (-1)) C.1 C.2.1 dX16_isIn_67 (by decide) ?_
    refine lv_icmp_eq (tgt := 84) C.1 C.2.1 dX16_isIn_68 (by decide) (fun c18 => ?_) (fun c18 => ?_)
    · rw [if_pos c18] at hh
      exact B84 _ _ _ _ _ _ _  hm hs (lv_sub hl [0, 1, 3] rfl) hh
    · rw [if_neg c18] at hh
      refine r_aload_n C.1 C.2.1 dX16_isIn_71 rfl (lv_at hl 0 rfl) ?_
      refine r_getR C hm flX16_58 dX16_isIn_72 hh (fun x14 _ hh => ?_)
      refine r_aload_n C.1 C.2.1 dX16_isIn_75 rfl (lv_at hl 1 rfl) ?_
      refine r_getI C hm flX16_279 dX16_isIn_76 hh (fun x15 _ hh => ?_)
      refine r_ald C hm dX16_isIn_79 hh (fun x16 _ hh => ?_)
      refine lv_iload_n C.1 C.2.1 dX16_isIn_80 rfl (lv_at hl 2 rfl) ?_
      refine lv_icmp_ne (tgt := 131) C.1 C.2.1 dX16_isIn_81 (by decide) (fun c17 => ?_) (fun c17 => ?_)
      · rw [if_neg c17] at hh
        refine lv_iconst (v := 0) C.1 C.2.1 dX16_isIn_131 (by decide) ?_
        exact r_bretW hQ C hr hm hs (by decide) hh dX16_isIn_132
      · rw [if_pos c17] at hh
        exact B84 _ _ _ _ _ _ _  hm hs (lv_sub hl [0, 1, 3] rfl) hh
  unfold mX16_isIn at hh
  refine r_aload_n C.1 C.2.1 dX16_isIn_0 rfl (lv_at hl 0 rfl) ?_
  refine lv_iload_n C.1 C.2.1 dX16_isIn_1 rfl (lv_at hl 2 rfl) ?_
  refine lv_iload C.1 C.2.1 dX16_isIn_2 (lv_at hl 5 rfl) ?_
  refine r_cV C X hm hs mlX16_353 mvX16_353 hh (vv := fun r => some (.int r)) (hp := fun r => h) (fun b r hg => c_X16_isThere l G h b _ _ r hg) rfl rfl (Nat.le_of_ble_eq_true rfl) (Nat.le_of_ble_eq_true rfl) (Nat.le_of_ble_eq_true rfl) hl.1 dX16_isIn_4 (fun b20 r19 H locs hgr19 hh hm hs => ?_)
  refine W.eq (g2 := F0 m 7 ls [.int r19]) rfl ?_
  refine lv_if_ne (tgt := 12) C.1 C.2.1 dX16_isIn_7 (by decide) (fun c36 => ?_) (fun c36 => ?_)
  · rw [if_neg c36] at hh
    refine r_aload_n C.1 C.2.1 dX16_isIn_12 rfl (lv_at hl 0 rfl) ?_
    refine lv_iload_n C.1 C.2.1 dX16_isIn_13 rfl (lv_at hl 2 rfl) ?_
    refine lv_iload C.1 C.2.1 dX16_isIn_14 (lv_at hl 5 rfl) ?_
    refine lv_iload C.1 C.2.1 dX16_isIn_16 (lv_at hl 6 rfl) ?_
    refine r_aload_n C.1 C.2.1 dX16_isIn_18 rfl (lv_at hl 0 rfl) ?_
    refine r_getR C hm flX16_58 dX16_isIn_19 hh (fun x21 _ hh => ?_)
    refine r_cV C X hm hs mlX16_349 mvX16_349 hh (vv := fun r => none) (hp := fun r => r) (fun b r hg => c_X16_loads l G h b _ _ _ _ r hg) rfl rfl (Nat.le_of_ble_eq_true rfl) (Nat.le_of_ble_eq_true rfl) (Nat.le_of_ble_eq_true rfl) hl.1 dX16_isIn_22 (fun b23 r22 H locs hgr22 hh hm hs => ?_)
    refine W.eq (g2 := F0 m 25 ls []) rfl ?_
    refine r_aload_n C.1 C.2.1 dX16_isIn_25 rfl (lv_at hl 0 rfl) ?_
    refine r_getR C hm flX16_274 dX16_isIn_26 hh (fun x24 _ hh => ?_)
    refine r_aload_n C.1 C.2.1 dX16_isIn_29 rfl (lv_at hl 0 rfl) ?_
    refine r_getR C hm flX16_58 dX16_isIn_30 hh (fun x25 _ hh => ?_)
    refine r_cV C X hm hs mlX16_356 mvX16_356 hh (vv := fun r => some (.int r)) (hp := fun r => r22) (fun b r hg => c_X12_broken l G r22 b _ r hg) rfl rfl (Nat.le_of_ble_eq_true rfl) (Nat.le_of_ble_eq_true rfl) (Nat.le_of_ble_eq_true rfl) hl.1 dX16_isIn_33 (fun b27 r26 H locs hgr26 hh hm hs => ?_)
    refine W.eq (g2 := F0 m 36 ls [.int r26]) rfl ?_
    refine lv_iconst (v := (-1)) C.1 C.2.1 dX16_isIn_36 (by decide) ?_
    refine lv_icmp_ne (tgt := 61) C.1 C.2.1 dX16_isIn_37 (by decide) (fun c35 => ?_) (fun c35 => ?_)
    · rw [if_neg c35] at hh
      refine lv_iconst (v := 0) C.1 C.2.1 dX16_isIn_61 (by decide) ?_
      exact r_bretW hQ C hr hm hs (by decide) hh dX16_isIn_62
    · rw [if_pos c35] at hh
      refine r_aload_n C.1 C.2.1 dX16_isIn_40 rfl (lv_at hl 1 rfl) ?_
      refine r_getR C hm flX16_284 dX16_isIn_41 hh (fun x28 _ hh => ?_)
      refine r_ifnull (tgt := 63) C.1 C.2.1 dX16_isIn_44 (by decide) (fun c34 => ?_) (fun c34 => ?_)
      · rw [if_pos c34] at hh
        exact B63 _ _ _ _ _ _ _ _  hm hs (lv_sub hl [0, 1, 3, 4] rfl) hh
      · rw [if_neg c34] at hh
        refine r_aload_n C.1 C.2.1 dX16_isIn_47 rfl (lv_at hl 1 rfl) ?_
        refine r_getR C hm flX16_284 dX16_isIn_48 hh (fun x29 _ hh => ?_)
        refine r_aload_n C.1 C.2.1 dX16_isIn_51 rfl (lv_at hl 0 rfl) ?_
        refine r_getR C hm flX16_58 dX16_isIn_52 hh (fun x30 _ hh => ?_)
        refine r_cV C X hm hs mlX16_385 mvX16_385 hh (vv := fun r => some (.int r)) (hp := fun r => r22) (fun b r hg => c_X15_holds l G r22 b _ r hg) rfl rfl (Nat.le_of_ble_eq_true rfl) (Nat.le_of_ble_eq_true rfl) (Nat.le_of_ble_eq_true rfl) hl.1 dX16_isIn_55 (fun b32 r31 H locs hgr31 hh hm hs => ?_)
        refine W.eq (g2 := F0 m 58 ls [.int r31]) rfl ?_
        refine lv_if_ne (tgt := 63) C.1 C.2.1 dX16_isIn_58 (by decide) (fun c33 => ?_) (fun c33 => ?_)
        · rw [if_neg c33] at hh
          exact B63 _ _ _ _ _ _ _ _  hm hs (lv_sub hl [0, 1, 3, 4] rfl) hh
        · rw [if_pos c33] at hh
          refine lv_iconst (v := 0) C.1 C.2.1 dX16_isIn_61 (by decide) ?_
          exact r_bretW hQ C hr hm hs (by decide) hh dX16_isIn_62
  · rw [if_pos c36] at hh
    refine lv_iconst (v := 0) C.1 C.2.1 dX16_isIn_10 (by decide) ?_
    exact r_bretW hQ C hr hm hs (by decide) hh dX16_isIn_11
def mX16_figureOf_b67 (k6 : MHp → Nat → Option Nat → Int32 → Int32 → Int32 → Int32 → Int64 → Int32 → Option (Int64 × MHp)) (h : MHp) (a0 : Nat) (v1 : Option Nat) (v2 : Int32) (v3 : Int32) (v4 : Int32) (v5 : Int32) (v6 : Int64) (v8 : Int32) : Option (Int64 × MHp) := k6 h a0 v1 v2 v3 v4 v5 v6 (v8 + 1)
def mX16_figureOf_b62 (k6 : MHp → Nat → Option Nat → Int32 → Int32 → Int32 → Int32 → Int64 → Int32 → Option (Int64 × MHp)) (h : MHp) (a0 : Nat) (v1 : Option Nat) (v2 : Int32) (v3 : Int32) (v4 : Int32) (v5 : Int32) (v8 : Int32) (t0 : Int64) (t1 : Int64) (t2 : Int32) : Option (Int64 × MHp) := mX16_figureOf_b67 k6 h a0 v1 v2 v3 v4 v5 (t0 + (t1 * t2.toInt64)) v8
def mX16_figureOf_l6 : Nat → MHp → Nat → Option Nat → Int32 → Int32 → Int32 → Int32 → Int64 → Int32 → Option (Int64 × MHp)
  | 0, _, _, _, _, _, _, _, _, _ => none
  | n + 1, h, a0, v1, v2, v3, v4, v5, v6, v8 => (gI 17 18 h (some a0)).bind fun x1 => (if x1 ≤ v8 then some (v6, h) else (rcv 17 h (some a0)).bind fun b3 => (mX16_isIn h b3 v1 v8 v2 v3 v4 v5).bind fun r2 => (if r2.1 = 0 then mX16_figureOf_b67 (mX16_figureOf_l6 n) r2.2 a0 v1 v2 v3 v4 v5 v6 v8 else (gR 17 28 r2.2 (some a0)).bind fun x4 => (gAI 20 r2.2 x4 v8).bind fun x5 => (gI 15 0 r2.2 v1).bind fun x6 => (if x6 = (-1) then mX16_figureOf_b62 (mX16_figureOf_l6 n) r2.2 a0 v1 v2 v3 v4 v5 v8 v6 x5.toInt64 1 else (gR 17 29 r2.2 (some a0)).bind fun x7 => (gI 15 0 r2.2 v1).bind fun x8 => (gAI 20 r2.2 x7 x8).bind fun x9 => mX16_figureOf_b62 (mX16_figureOf_l6 n) r2.2 a0 v1 v2 v3 v4 v5 v8 v6 x5.toInt64 x9)))
def mX16_figureOf (h : MHp) (a0 : Nat) (a1 : Option Nat) (a2 : Int32) (a3 : Int32) (a4 : Int32) (a5 : Int32) : Option (Int64 × MHp) := mX16_figureOf_l6 FUEL h a0 a1 a2 a3 a4 a5 0 0
set_option maxRecDepth 100000 in
set_option maxHeartbeats 4000000 in
theorem c_X16_figureOf (l : Launch) (G : Env0) (h : MHp) (a0 : Nat) (a1 : Option Nat) (a2 : Int32) (a3 : Int32) (a4 : Int32) (a5 : Int32) (res : Int64 × MHp) (hh : mX16_figureOf h a0 a1 a2 a3 a4 a5 = some res) : MG l yX16_figureOf cX16_figureOf 9 (some .long) 3 76 0 0 G h [.ref a0, va_rf a1, .int a2, .int a3, .int a4, .int a5] (some (.long res.1)) (res.2) := by
  refine MG_of (own := RX16) (plainFor_of_name (by decide)) rfl (by simp [lg_sl, va_cat, vc_i, vc_l, vc_r]) ?_
  intro p e s m args below meth c Q ls hQ C X hin hm hs hl hr
  have hl : lv_has ls 9 [(0, .ref a0), (1, va_rf a1), (2, .int a2), (3, .int a3), (4, .int a4), (5, .int a5)] := by simpa [lv_args, va_cat, vc_i, vc_l, vc_r] using hl
  have hl : lv_has ls 9 [(0, va_rf (some a0)), (1, va_rf a1), (2, .int a2), (3, .int a3), (4, .int a4), (5, .int a5)] := hl
  have B67 : ∀ (k6 : MHp → Nat → Option Nat → Int32 → Int32 → Int32 → Int32 → Int64 → Int32 → Option (Int64 × MHp)), (∀ (h : MHp) (H : Heap) (locs : List Loc) (ls : Array Slot) (a0 : Nat) (v1 : Option Nat) (v2 : Int32) (v3 : Int32) (v4 : Int32) (v5 : Int32) (v6 : Int64) (v8 : Int32) , mHp (gD G) (gC G) (gB G) h H → va_S (fun q => gB G ≤ q) s.heap H locs → lv_has ls 9 [(0, va_rf (some a0)), (1, va_rf v1), (2, .int v2), (3, .int v3), (4, .int v4), (5, .int v5), (6, .long v6), (8, .int v8)] → k6 h a0 v1 v2 v3 v4 v5 v6 v8 = some res → W p l e ({ frames := 3, cells := 0, slots := 0, locals := 76 }) s m args below meth c H locs 0 0 Q (F0 m 6 ls [])) → ∀ (h : MHp) (H : Heap) (locs : List Loc) (ls : Array Slot) (a0 : Nat) (v1 : Option Nat) (v2 : Int32) (v3 : Int32) (v4 : Int32) (v5 : Int32) (v6 : Int64) (v8 : Int32) , mHp (gD G) (gC G) (gB G) h H → va_S (fun q => gB G ≤ q) s.heap H locs → lv_has ls 9 [(0, va_rf (some a0)), (1, va_rf v1), (2, .int v2), (3, .int v3), (4, .int v4), (5, .int v5), (6, .long v6), (8, .int v8)] → mX16_figureOf_b67 k6 h a0 v1 v2 v3 v4 v5 v6 v8 = some res → W p l e ({ frames := 3, cells := 0, slots := 0, locals := 76 }) s m args below meth c H locs 0 0 Q (F0 m 67 ls []) := by
    intro k6 hk6 h H locs ls a0 v1 v2 v3 v4 v5 v6 v8 hm hs hl hh
    unfold mX16_figureOf_b67 at hh
    refine lv_iinc (v := (v8 + 1)) (lv' := [(8, .int (v8 + 1)), (0, va_rf (some a0)), (1, va_rf v1), (2, .int v2), (3, .int v3), (4, .int v4), (5, .int v5), (6, .long v6)]) C.1 C.2.1 dX16_figureOf_67 hl (k := 7) rfl rfl (by decide) rfl (fun ls hl => ?_)
    refine lv_goto (tgt := 6) C.1 C.2.1 dX16_figureOf_70 (by decide) ?_
    exact hk6 _ _ _ _ _ _ _ _ _ _ _ _  hm hs (lv_sub hl [1, 2, 3, 4, 5, 6, 7, 0] rfl) hh
  have B62 : ∀ (k6 : MHp → Nat → Option Nat → Int32 → Int32 → Int32 → Int32 → Int64 → Int32 → Option (Int64 × MHp)), (∀ (h : MHp) (H : Heap) (locs : List Loc) (ls : Array Slot) (a0 : Nat) (v1 : Option Nat) (v2 : Int32) (v3 : Int32) (v4 : Int32) (v5 : Int32) (v6 : Int64) (v8 : Int32) , mHp (gD G) (gC G) (gB G) h H → va_S (fun q => gB G ≤ q) s.heap H locs → lv_has ls 9 [(0, va_rf (some a0)), (1, va_rf v1), (2, .int v2), (3, .int v3), (4, .int v4), (5, .int v5), (6, .long v6), (8, .int v8)] → k6 h a0 v1 v2 v3 v4 v5 v6 v8 = some res → W p l e ({ frames := 3, cells := 0, slots := 0, locals := 76 }) s m args below meth c H locs 0 0 Q (F0 m 6 ls [])) → ∀ (h : MHp) (H : Heap) (locs : List Loc) (ls : Array Slot) (a0 : Nat) (v1 : Option Nat) (v2 : Int32) (v3 : Int32) (v4 : Int32) (v5 : Int32) (v8 : Int32) (t0 : Int64) (t1 : Int64) (t2 : Int32) , mHp (gD G) (gC G) (gB G) h H → va_S (fun q => gB G ≤ q) s.heap H locs → lv_has ls 9 [(0, va_rf (some a0)), (1, va_rf v1), (2, .int v2), (3, .int v3), (4, .int v4), (5, .int v5), (8, .int v8)] → mX16_figureOf_b62 k6 h a0 v1 v2 v3 v4 v5 v8 t0 t1 t2 = some res → W p l e ({ frames := 3, cells := 0, slots := 0, locals := 76 }) s m args below meth c H locs 0 0 Q (F0 m 62 ls [.int t2, .long t1, .long t0]) := by
    intro k6 hk6 h H locs ls a0 v1 v2 v3 v4 v5 v8 t0 t1 t2 hm hs hl hh
    unfold mX16_figureOf_b62 at hh
    refine lv_i2l (v := t2.toInt64) C.1 C.2.1 dX16_figureOf_62 rfl ?_
    refine lv_lmul C.1 C.2.1 dX16_figureOf_63 ?_
    refine lv_ladd C.1 C.2.1 dX16_figureOf_64 ?_
    refine lv_lstore (i := 6) (lv' := [(6, .long (t0 + (t1 * t2.toInt64))), (0, va_rf (some a0)), (1, va_rf v1), (2, .int v2), (3, .int v3), (4, .int v4), (5, .int v5), (8, .int v8)]) C.1 C.2.1 dX16_figureOf_65 hl (by decide) rfl (fun ls hl => ?_)
    exact B67 _ hk6 _ _ _ _ _ _ _ _ _ _ _ _  hm hs (lv_sub hl [1, 2, 3, 4, 5, 6, 0, 7] rfl) hh
  have B6 : ∀ n : Nat, ∀ (h : MHp) (H : Heap) (locs : List Loc) (ls : Array Slot) (a0 : Nat) (v1 : Option Nat) (v2 : Int32) (v3 : Int32) (v4 : Int32) (v5 : Int32) (v6 : Int64) (v8 : Int32) , mHp (gD G) (gC G) (gB G) h H → va_S (fun q => gB G ≤ q) s.heap H locs → lv_has ls 9 [(0, va_rf (some a0)), (1, va_rf v1), (2, .int v2), (3, .int v3), (4, .int v4), (5, .int v5), (6, .long v6), (8, .int v8)] → mX16_figureOf_l6 n h a0 v1 v2 v3 v4 v5 v6 v8 = some res → W p l e ({ frames := 3, cells := 0, slots := 0, locals := 76 }) s m args below meth c H locs 0 0 Q (F0 m 6 ls []) := by
    intro n
    induction n with
    | zero => intro h H locs ls a0 v1 v2 v3 v4 v5 v6 v8 hm hs hl hh; cases hh
    | succ n ih =>
      intro h H locs ls a0 v1 v2 v3 v4 v5 v6 v8 hm hs hl hh
      unfold mX16_figureOf_l6 at hh
      refine lv_iload C.1 C.2.1 dX16_figureOf_6 (lv_at hl 7 rfl) ?_
      refine r_aload_n C.1 C.2.1 dX16_figureOf_8 rfl (lv_at hl 0 rfl) ?_
      refine r_getI C hm flX16_308 dX16_figureOf_9 hh (fun x1 _ hh => ?_)
      refine lv_icmp_ge (tgt := 73) C.1 C.2.1 dX16_figureOf_12 (by decide) (fun c12 => ?_) (fun c12 => ?_)
      · rw [if_pos c12] at hh
        refine lv_lload C.1 C.2.1 dX16_figureOf_73 (lv_at hl 6 rfl) ?_
        exact r_lretW hQ C hr hm hs hh dX16_figureOf_75
      · rw [if_neg c12] at hh
        refine r_aload_n C.1 C.2.1 dX16_figureOf_15 rfl (lv_at hl 0 rfl) ?_
        refine r_aload_n C.1 C.2.1 dX16_figureOf_16 rfl (lv_at hl 1 rfl) ?_
        refine lv_iload C.1 C.2.1 dX16_figureOf_17 (lv_at hl 7 rfl) ?_
        refine lv_iload_n C.1 C.2.1 dX16_figureOf_19 rfl (lv_at hl 2 rfl) ?_
        refine lv_iload_n C.1 C.2.1 dX16_figureOf_20 rfl (lv_at hl 3 rfl) ?_
        refine lv_iload C.1 C.2.1 dX16_figureOf_21 (lv_at hl 4 rfl) ?_
        refine lv_iload C.1 C.2.1 dX16_figureOf_23 (lv_at hl 5 rfl) ?_
        refine r_cV C X hm hs mlX16_389 mvX16_389 hh (vv := fun r => some (.int r.1)) (hp := fun r => r.2) (fun b r hg => c_X16_isIn l G h b _ _ _ _ _ _ r hg) rfl rfl (Nat.le_of_ble_eq_true rfl) (Nat.le_of_ble_eq_true rfl) (Nat.le_of_ble_eq_true rfl) hl.1 dX16_figureOf_25 (fun b3 r2 H locs hgr2 hh hm hs => ?_)
        refine W.eq (g2 := F0 m 28 ls [.int r2.1]) rfl ?_
        refine lv_if_eq (tgt := 67) C.1 C.2.1 dX16_figureOf_28 (by decide) (fun c11 => ?_) (fun c11 => ?_)
        · rw [if_pos c11] at hh
          exact B67 _ ih _ _ _ _ _ _ _ _ _ _ _ _  hm hs (lv_sub hl [0, 1, 2, 3, 4, 5, 6, 7] rfl) hh
        · rw [if_neg c11] at hh
          refine lv_lload C.1 C.2.1 dX16_figureOf_31 (lv_at hl 6 rfl) ?_
          refine r_aload_n C.1 C.2.1 dX16_figureOf_33 rfl (lv_at hl 0 rfl) ?_
          refine r_getR C hm flX16_55 dX16_figureOf_34 hh (fun x4 _ hh => ?_)
          refine lv_iload C.1 C.2.1 dX16_figureOf_37 (lv_at hl 7 rfl) ?_
          refine r_ald C hm dX16_figureOf_39 hh (fun x5 _ hh => ?_)
          refine lv_i2l (v := x5.toInt64) C.1 C.2.1 dX16_figureOf_40 rfl ?_
          refine r_aload_n C.1 C.2.1 dX16_figureOf_41 rfl (lv_at hl 1 rfl) ?_
          refine r_getI C hm flX16_277 dX16_figureOf_42 hh (fun x6 _ hh => ?_)
          refine lv_iconst (v := (-1)) C.1 C.2.1 dX16_figureOf_45 (by decide) ?_
          refine lv_icmp_ne (tgt := 53) C.1 C.2.1 dX16_figureOf_46 (by decide) (fun c10 => ?_) (fun c10 => ?_)
          · rw [if_neg c10] at hh
            refine r_aload_n C.1 C.2.1 dX16_figureOf_53 rfl (lv_at hl 0 rfl) ?_
            refine r_getR C hm flX16_58 dX16_figureOf_54 hh (fun x7 _ hh => ?_)
            refine r_aload_n C.1 C.2.1 dX16_figureOf_57 rfl (lv_at hl 1 rfl) ?_
            refine r_getI C hm flX16_277 dX16_figureOf_58 hh (fun x8 _ hh => ?_)
            refine r_ald C hm dX16_figureOf_61 hh (fun x9 _ hh => ?_)
            exact B62 _ ih _ _ _ _ _ _ _ _ _ _ _ _ _ _  hm hs (lv_sub hl [0, 1, 2, 3, 4, 5, 7] rfl) hh
          · rw [if_pos c10] at hh
            refine lv_iconst (v := 1) C.1 C.2.1 dX16_figureOf_49 (by decide) ?_
            refine lv_goto (tgt := 62) C.1 C.2.1 dX16_figureOf_50 (by decide) ?_
            exact B62 _ ih _ _ _ _ _ _ _ _ _ _ _ _ _ _  hm hs (lv_sub hl [0, 1, 2, 3, 4, 5, 7] rfl) hh
  unfold mX16_figureOf at hh
  refine lv_lconst (v := 0) C.1 C.2.1 dX16_figureOf_0 (by decide) ?_
  refine lv_lstore (i := 6) (lv' := [(6, .long 0), (0, va_rf (some a0)), (1, va_rf a1), (2, .int a2), (3, .int a3), (4, .int a4), (5, .int a5)]) C.1 C.2.1 dX16_figureOf_1 hl (by decide) rfl (fun ls hl => ?_)
  refine lv_iconst (v := 0) C.1 C.2.1 dX16_figureOf_3 (by decide) ?_
  refine lv_istore (i := 8) (lv' := [(8, .int 0), (6, .long 0), (0, va_rf (some a0)), (1, va_rf a1), (2, .int a2), (3, .int a3), (4, .int a4), (5, .int a5)]) C.1 C.2.1 dX16_figureOf_4 hl (by decide) rfl (fun ls hl => ?_)
  exact B6 FUEL _ _ _ _ _ _ _ _ _ _ _ _  hm hs (lv_sub hl [2, 3, 4, 5, 6, 7, 1, 0] rfl) hh
def mX16_figure_b44 (h : MHp) (a0 : Nat) : Option (Int64 × MHp) := (rcv 17 h (some a0)).bind fun b2 => (mX16_lost h b2 2).bind fun r1 => some (r1.1, r1.2)
def mX16_figure (h : MHp) (a0 : Nat) (a1 : Int32) (a2 : Int32) (a3 : Int32) (a4 : Int32) (a5 : Int32) : Option (Int64 × MHp) := (pI 17 0 h (some a0) 0).bind fun h3 => (rcv 17 h3 (some a0)).bind fun b5 => (mX16_isCell h3 b5 a1 a2 a3).bind fun r4 => (if r4 = 0 then (rcv 17 h3 (some a0)).bind fun b18 => (mX16_lost h3 b18 1).bind fun r17 => some (r17.1, r17.2) else (gI 17 19 h3 (some a0)).bind fun x6 => (mX16_in h3 a4 0 x6).bind fun r7 => (if r7 = 0 then mX16_figure_b44 h3 a0 else (mX16_in h3 a5 0 4).bind fun r8 => (if r8 = 0 then mX16_figure_b44 h3 a0 else (gR 17 6 h3 (some a0)).bind fun x9 => (gAR 26 h3 x9 a1).bind fun x10 => (rcv 17 h3 (some a0)).bind fun b12 => (mX16_figureOf h3 b12 x10 a2 a3 a4 a5).bind fun r11 => (rcv 17 r11.2 (some a0)).bind fun b14 => (mX16_told r11.2 b14 r11.1).bind fun r13 => some (r13.1, r13.2))))
set_option maxRecDepth 100000 in
set_option maxHeartbeats 4000000 in
theorem c_X16_figure (l : Launch) (G : Env0) (h : MHp) (a0 : Nat) (a1 : Int32) (a2 : Int32) (a3 : Int32) (a4 : Int32) (a5 : Int32) (res : Int64 × MHp) (hh : mX16_figure h a0 a1 a2 a3 a4 a5 = some res) : MG l yX16_figure cX16_figure 6 (some .long) 4 104 0 0 G h [.ref a0, .int a1, .int a2, .int a3, .int a4, .int a5] (some (.long res.1)) (res.2) := by
  refine MG_of (own := RX16) (plainFor_of_name (by decide)) rfl (Nat.le_of_ble_eq_true rfl) ?_
  intro p e s m args below meth c Q ls hQ C X hin hm hs hl hr
  have hl : lv_has ls 6 [(0, va_rf (some a0)), (1, .int a1), (2, .int a2), (3, .int a3), (4, .int a4), (5, .int a5)] := hl
  have B44 : ∀ (h : MHp) (H : Heap) (locs : List Loc) (ls : Array Slot) (a0 : Nat) , mHp (gD G) (gC G) (gB G) h H → va_S (fun q => gB G ≤ q) s.heap H locs → lv_has ls 6 [(0, va_rf (some a0))] → mX16_figure_b44 h a0 = some res → W p l e ({ frames := 4, cells := 0, slots := 0, locals := 104 }) s m args below meth c H locs 0 0 Q (F0 m 44 ls []) := by
    intro h H locs ls a0 hm hs hl hh
    unfold mX16_figure_b44 at hh
    refine r_aload_n C.1 C.2.1 dX16_figure_44 rfl (lv_at hl 0 rfl) ?_
    refine lv_iconst (v := 2) C.1 C.2.1 dX16_figure_45 (by decide) ?_
    refine r_cV C X hm hs mlX16_396 mvX16_396 hh (vv := fun r => some (.long r.1)) (hp := fun r => r.2) (fun b r hg => c_X16_lost l G h b _ r hg) rfl rfl (Nat.le_of_ble_eq_true rfl) (Nat.le_of_ble_eq_true rfl) (Nat.le_of_ble_eq_true rfl) hl.1 dX16_figure_46 (fun b2 r1 H locs hgr1 hh hm hs => ?_)
    refine W.eq (g2 := F0 m 49 ls [.long r1.1]) rfl ?_
    exact r_lretW hQ C hr hm hs hh dX16_figure_49
  unfold mX16_figure at hh
  refine r_aload_n C.1 C.2.1 dX16_figure_0 rfl (lv_at hl 0 rfl) ?_
  refine lv_iconst (v := 0) C.1 C.2.1 dX16_figure_1 (by decide) ?_
  refine r_putI C hm hs flX16_109 (Or.inl fm_17_0) dX16_figure_2 hh (fun h3 H locs _ hh hm hs => ?_)
  refine r_aload_n C.1 C.2.1 dX16_figure_5 rfl (lv_at hl 0 rfl) ?_
  refine lv_iload_n C.1 C.2.1 dX16_figure_6 rfl (lv_at hl 1 rfl) ?_
  refine lv_iload_n C.1 C.2.1 dX16_figure_7 rfl (lv_at hl 2 rfl) ?_
  refine lv_iload_n C.1 C.2.1 dX16_figure_8 rfl (lv_at hl 3 rfl) ?_
  refine r_cV C X hm hs mlX16_393 mvX16_393 hh (vv := fun r => some (.int r)) (hp := fun r => h3) (fun b r hg => c_X16_isCell l G h3 b _ _ _ r hg) rfl rfl (Nat.le_of_ble_eq_true rfl) (Nat.le_of_ble_eq_true rfl) (Nat.le_of_ble_eq_true rfl) hl.1 dX16_figure_9 (fun b5 r4 H locs hgr4 hh hm hs => ?_)
  refine W.eq (g2 := F0 m 12 ls [.int r4]) rfl ?_
  refine lv_if_ne (tgt := 21) C.1 C.2.1 dX16_figure_12 (by decide) (fun c19 => ?_) (fun c19 => ?_)
  · rw [if_neg c19] at hh
    refine lv_iload C.1 C.2.1 dX16_figure_21 (lv_at hl 4 rfl) ?_
    refine lv_iconst (v := 0) C.1 C.2.1 dX16_figure_23 (by decide) ?_
    refine r_aload_n C.1 C.2.1 dX16_figure_24 rfl (lv_at hl 0 rfl) ?_
    refine r_getI C hm flX16_314 dX16_figure_25 hh (fun x6 _ hh => ?_)
    refine r_cS C X hm hs mlX16_231 msX16_231 hh (vv := fun r => some (.int r)) (hp := fun r => h3) (fun r hg => c_X16_in l G h3 _ _ _ r hg) rfl rfl (Nat.le_of_ble_eq_true rfl) (Nat.le_of_ble_eq_true rfl) (Nat.le_of_ble_eq_true rfl) hl.1 dX16_figure_28 (fun r7 H locs hgr7 hh hm hs => ?_)
    refine W.eq (g2 := F0 m 31 ls [.int r7]) rfl ?_
    refine lv_if_eq (tgt := 44) C.1 C.2.1 dX16_figure_31 (by decide) (fun c16 => ?_) (fun c16 => ?_)
    · rw [if_pos c16] at hh
      exact B44 _ _ _ _ _  hm hs (lv_sub hl [0] rfl) hh
    · rw [if_neg c16] at hh
      refine lv_iload C.1 C.2.1 dX16_figure_34 (lv_at hl 5 rfl) ?_
      refine lv_iconst (v := 0) C.1 C.2.1 dX16_figure_36 (by decide) ?_
      refine lv_iconst (v := 4) C.1 C.2.1 dX16_figure_37 (by decide) ?_
      refine r_cS C X hm hs mlX16_231 msX16_231 hh (vv := fun r => some (.int r)) (hp := fun r => h3) (fun r hg => c_X16_in l G h3 _ _ _ r hg) rfl rfl (Nat.le_of_ble_eq_true rfl) (Nat.le_of_ble_eq_true rfl) (Nat.le_of_ble_eq_true rfl) hl.1 dX16_figure_38 (fun r8 H locs hgr8 hh hm hs => ?_)
      refine W.eq (g2 := F0 m 41 ls [.int r8]) rfl ?_
      refine lv_if_ne (tgt := 50) C.1 C.2.1 dX16_figure_41 (by decide) (fun c15 => ?_) (fun c15 => ?_)
      · rw [if_neg c15] at hh
        refine r_aload_n C.1 C.2.1 dX16_figure_50 rfl (lv_at hl 0 rfl) ?_
        refine r_aload_n C.1 C.2.1 dX16_figure_51 rfl (lv_at hl 0 rfl) ?_
        refine r_aload_n C.1 C.2.1 dX16_figure_52 rfl (lv_at hl 0 rfl) ?_
        refine r_getR C hm flX16_15 dX16_figure_53 hh (fun x9 _ hh => ?_)
        refine lv_iload_n C.1 C.2.1 dX16_figure_56 rfl (lv_at hl 1 rfl) ?_
        refine r_ald_q C hm dX16_figure_57 (kd := 26) (by decide) (t0 := 6) rfl hh (fun x10 _ hh => ?_)
        refine lv_iload_n C.1 C.2.1 dX16_figure_58 rfl (lv_at hl 2 rfl) ?_
        refine lv_iload_n C.1 C.2.1 dX16_figure_59 rfl (lv_at hl 3 rfl) ?_
        refine lv_iload C.1 C.2.1 dX16_figure_60 (lv_at hl 4 rfl) ?_
        refine lv_iload C.1 C.2.1 dX16_figure_62 (lv_at hl 5 rfl) ?_
        refine r_cV C X hm hs mlX16_400 mvX16_400 hh (vv := fun r => some (.long r.1)) (hp := fun r => r.2) (fun b r hg => c_X16_figureOf l G h3 b _ _ _ _ _ r hg) rfl rfl (by simp [va_cat, vc_i, vc_l, vc_r]) (Nat.le_of_ble_eq_true rfl) (Nat.le_of_ble_eq_true rfl) hl.1 dX16_figure_64 (fun b12 r11 H locs hgr11 hh hm hs => ?_)
        refine W.eq (g2 := F0 m 67 ls [.long r11.1, va_rf (some a0)]) rfl ?_
        refine r_cV C X hm hs mlX16_404 mvX16_404 hh (vv := fun r => some (.long r.1)) (hp := fun r => r.2) (fun b r hg => c_X16_told l G r11.2 b _ r hg) rfl rfl (Nat.le_of_ble_eq_true rfl) (Nat.le_of_ble_eq_true rfl) (Nat.le_of_ble_eq_true rfl) hl.1 dX16_figure_67 (fun b14 r13 H locs hgr13 hh hm hs => ?_)
        refine W.eq (g2 := F0 m 70 ls [.long r13.1]) rfl ?_
        exact r_lretW hQ C hr hm hs hh dX16_figure_70
      · rw [if_pos c15] at hh
        exact B44 _ _ _ _ _  hm hs (lv_sub hl [0] rfl) hh
  · rw [if_pos c19] at hh
    refine r_aload_n C.1 C.2.1 dX16_figure_15 rfl (lv_at hl 0 rfl) ?_
    refine lv_iconst (v := 1) C.1 C.2.1 dX16_figure_16 (by decide) ?_
    refine r_cV C X hm hs mlX16_396 mvX16_396 hh (vv := fun r => some (.long r.1)) (hp := fun r => r.2) (fun b r hg => c_X16_lost l G h3 b _ r hg) rfl rfl (Nat.le_of_ble_eq_true rfl) (Nat.le_of_ble_eq_true rfl) (Nat.le_of_ble_eq_true rfl) hl.1 dX16_figure_17 (fun b18 r17 H locs hgr17 hh hm hs => ?_)
    refine W.eq (g2 := F0 m 20 ls [.long r17.1]) rfl ?_
    exact r_lretW hQ C hr hm hs hh dX16_figure_20
def mX16_span_b91 (k43 : MHp → Nat → Int32 → Int32 → Int32 → Int32 → Int64 → Int32 → Option (Int64 × MHp)) (h : MHp) (a0 : Nat) (v1 : Int32) (v2 : Int32) (v3 : Int32) (v4 : Int32) (v7 : Int32) (t0 : Int64) : Option (Int64 × MHp) := k43 h a0 v1 v2 v3 v4 t0 (v7 + 1)
def mX16_span_l43 : Nat → MHp → Nat → Int32 → Int32 → Int32 → Int32 → Int64 → Int32 → Option (Int64 × MHp)
  | 0, _, _, _, _, _, _, _, _ => none
  | n + 1, h, a0, v1, v2, v3, v4, v5, v7 => (if 5 ≤ v7 then (rcv 17 h (some a0)).bind fun b2 => (mX16_told h b2 v5).bind fun r1 => some (r1.1, r1.2) else (gR 17 6 h (some a0)).bind fun x3 => (gAR 26 h x3 v1).bind fun x4 => (gI 17 19 h (some a0)).bind fun x5 => (rcv 17 h (some a0)).bind fun b7 => (mX16_figureOf h b7 x4 v2 v3 x5 v7).bind fun r6 => (if v4 = 0 then (mJ9_min_f86c9 r6.2 v5 r6.1).bind fun r8 => mX16_span_b91 (mX16_span_l43 n) r6.2 a0 v1 v2 v3 v4 v7 r8 else (mJ9_max_f86c9 r6.2 v5 r6.1).bind fun r9 => mX16_span_b91 (mX16_span_l43 n) r6.2 a0 v1 v2 v3 v4 v7 r9))
def mX16_span (h : MHp) (a0 : Nat) (a1 : Int32) (a2 : Int32) (a3 : Int32) (a4 : Int32) : Option (Int64 × MHp) := (pI 17 0 h (some a0) 0).bind fun h12 => (rcv 17 h12 (some a0)).bind fun b14 => (mX16_isCell h12 b14 a1 a2 a3).bind fun r13 => (if r13 = 0 then (rcv 17 h12 (some a0)).bind fun b21 => (mX16_lost h12 b21 1).bind fun r20 => some (r20.1, r20.2) else (gR 17 6 h12 (some a0)).bind fun x15 => (gAR 26 h12 x15 a1).bind fun x16 => (gI 17 19 h12 (some a0)).bind fun x17 => (rcv 17 h12 (some a0)).bind fun b19 => (mX16_figureOf h12 b19 x16 a2 a3 x17 0).bind fun r18 => mX16_span_l43 FUEL r18.2 a0 a1 a2 a3 a4 r18.1 1)
set_option maxRecDepth 100000 in
set_option maxHeartbeats 4000000 in
theorem c_X16_span (l : Launch) (G : Env0) (h : MHp) (a0 : Nat) (a1 : Int32) (a2 : Int32) (a3 : Int32) (a4 : Int32) (res : Int64 × MHp) (hh : mX16_span h a0 a1 a2 a3 a4 = some res) : MG l yX16_span cX16_span 10 (some .long) 4 104 0 0 G h [.ref a0, .int a1, .int a2, .int a3, .int a4] (some (.long res.1)) (res.2) := by
  refine MG_of (own := RX16) (plainFor_of_name (by decide)) rfl (Nat.le_of_ble_eq_true rfl) ?_
  intro p e s m args below meth c Q ls hQ C X hin hm hs hl hr
  have hl : lv_has ls 10 [(0, va_rf (some a0)), (1, .int a1), (2, .int a2), (3, .int a3), (4, .int a4)] := hl
  have B91 : ∀ (k43 : MHp → Nat → Int32 → Int32 → Int32 → Int32 → Int64 → Int32 → Option (Int64 × MHp)), (∀ (h : MHp) (H : Heap) (locs : List Loc) (ls : Array Slot) (a0 : Nat) (v1 : Int32) (v2 : Int32) (v3 : Int32) (v4 : Int32) (v5 : Int64) (v7 : Int32) , mHp (gD G) (gC G) (gB G) h H → va_S (fun q => gB G ≤ q) s.heap H locs → lv_has ls 10 [(0, va_rf (some a0)), (1, .int v1), (2, .int v2), (3, .int v3), (4, .int v4), (5, .long v5), (7, .int v7)] → k43 h a0 v1 v2 v3 v4 v5 v7 = some res → W p l e ({ frames := 4, cells := 0, slots := 0, locals := 104 }) s m args below meth c H locs 0 0 Q (F0 m 43 ls [])) → ∀ (h : MHp) (H : Heap) (locs : List Loc) (ls : Array Slot) (a0 : Nat) (v1 : Int32) (v2 : Int32) (v3 : Int32) (v4 : Int32) (v7 : Int32) (t0 : Int64) , mHp (gD G) (gC G) (gB G) h H → va_S (fun q => gB G ≤ q) s.heap H locs → lv_has ls 10 [(0, va_rf (some a0)), (1, .int v1), (2, .int v2), (3, .int v3), (4, .int v4), (7, .int v7)] → mX16_span_b91 k43 h a0 v1 v2 v3 v4 v7 t0 = some res → W p l e ({ frames := 4, cells := 0, slots := 0, locals := 104 }) s m args below meth c H locs 0 0 Q (F0 m 91 ls [.long t0]) := by
    intro k43 hk43 h H locs ls a0 v1 v2 v3 v4 v7 t0 hm hs hl hh
    unfold mX16_span_b91 at hh
    refine lv_lstore (i := 5) (lv' := [(5, .long t0), (0, va_rf (some a0)), (1, .int v1), (2, .int v2), (3, .int v3), (4, .int v4), (7, .int v7)]) C.1 C.2.1 dX16_span_91 hl (by decide) rfl (fun ls hl => ?_)
    refine lv_iinc (v := (v7 + 1)) (lv' := [(7, .int (v7 + 1)), (5, .long t0), (0, va_rf (some a0)), (1, .int v1), (2, .int v2), (3, .int v3), (4, .int v4)]) C.1 C.2.1 dX16_span_93 hl (k := 6) rfl rfl (by decide) rfl (fun ls hl => ?_)
    refine lv_goto (tgt := 43) C.1 C.2.1 dX16_span_96 (by decide) ?_
    exact hk43 _ _ _ _ _ _ _ _ _ _ _  hm hs (lv_sub hl [2, 3, 4, 5, 6, 1, 0] rfl) hh
  have B43 : ∀ n : Nat, ∀ (h : MHp) (H : Heap) (locs : List Loc) (ls : Array Slot) (a0 : Nat) (v1 : Int32) (v2 : Int32) (v3 : Int32) (v4 : Int32) (v5 : Int64) (v7 : Int32) , mHp (gD G) (gC G) (gB G) h H → va_S (fun q => gB G ≤ q) s.heap H locs → lv_has ls 10 [(0, va_rf (some a0)), (1, .int v1), (2, .int v2), (3, .int v3), (4, .int v4), (5, .long v5), (7, .int v7)] → mX16_span_l43 n h a0 v1 v2 v3 v4 v5 v7 = some res → W p l e ({ frames := 4, cells := 0, slots := 0, locals := 104 }) s m args below meth c H locs 0 0 Q (F0 m 43 ls []) := by
    intro n
    induction n with
    | zero => intro h H locs ls a0 v1 v2 v3 v4 v5 v7 hm hs hl hh; cases hh
    | succ n ih =>
      intro h H locs ls a0 v1 v2 v3 v4 v5 v7 hm hs hl hh
      unfold mX16_span_l43 at hh
      refine lv_iload C.1 C.2.1 dX16_span_43 (lv_at hl 6 rfl) ?_
      refine lv_iconst (v := 5) C.1 C.2.1 dX16_span_45 (by decide) ?_
      refine lv_icmp_ge (tgt := 99) C.1 C.2.1 dX16_span_46 (by decide) (fun c11 => ?_) (fun c11 => ?_)
      · rw [if_pos c11] at hh
        refine r_aload_n C.1 C.2.1 dX16_span_99 rfl (lv_at hl 0 rfl) ?_
        refine lv_lload C.1 C.2.1 dX16_span_100 (lv_at hl 5 rfl) ?_
        refine r_cV C X hm hs mlX16_404 mvX16_404 hh (vv := fun r => some (.long r.1)) (hp := fun r => r.2) (fun b r hg => c_X16_told l G h b _ r hg) rfl rfl (Nat.le_of_ble_eq_true rfl) (Nat.le_of_ble_eq_true rfl) (Nat.le_of_ble_eq_true rfl) hl.1 dX16_span_102 (fun b2 r1 H locs hgr1 hh hm hs => ?_)
        refine W.eq (g2 := F0 m 105 ls [.long r1.1]) rfl ?_
        exact r_lretW hQ C hr hm hs hh dX16_span_105
      · rw [if_neg c11] at hh
        refine r_aload_n C.1 C.2.1 dX16_span_49 rfl (lv_at hl 0 rfl) ?_
        refine r_aload_n C.1 C.2.1 dX16_span_50 rfl (lv_at hl 0 rfl) ?_
        refine r_getR C hm flX16_15 dX16_span_51 hh (fun x3 _ hh => ?_)
        refine lv_iload_n C.1 C.2.1 dX16_span_54 rfl (lv_at hl 1 rfl) ?_
        refine r_ald_q C hm dX16_span_55 (kd := 26) (by decide) (t0 := 6) rfl hh (fun x4 _ hh => ?_)
        refine lv_iload_n C.1 C.2.1 dX16_span_56 rfl (lv_at hl 2 rfl) ?_
        refine lv_iload_n C.1 C.2.1 dX16_span_57 rfl (lv_at hl 3 rfl) ?_
        refine r_aload_n C.1 C.2.1 dX16_span_58 rfl (lv_at hl 0 rfl) ?_
        refine r_getI C hm flX16_314 dX16_span_59 hh (fun x5 _ hh => ?_)
        refine lv_iload C.1 C.2.1 dX16_span_62 (lv_at hl 6 rfl) ?_
        refine r_cV C X hm hs mlX16_400 mvX16_400 hh (vv := fun r => some (.long r.1)) (hp := fun r => r.2) (fun b r hg => c_X16_figureOf l G h b _ _ _ _ _ r hg) rfl rfl (Nat.le_of_ble_eq_true rfl) (Nat.le_of_ble_eq_true rfl) (Nat.le_of_ble_eq_true rfl) hl.1 dX16_span_64 (fun b7 r6 H locs hgr6 hh hm hs => ?_)
        refine W.eq (g2 := F0 m 67 ls [.long r6.1]) rfl ?_
        refine lv_lstore (i := 8) (lv' := [(8, .long r6.1), (0, va_rf (some a0)), (1, .int v1), (2, .int v2), (3, .int v3), (4, .int v4), (5, .long v5), (7, .int v7)]) C.1 C.2.1 dX16_span_67 hl (by decide) rfl (fun ls hl => ?_)
        refine lv_iload C.1 C.2.1 dX16_span_69 (lv_at hl 5 rfl) ?_
        refine lv_if_eq (tgt := 84) C.1 C.2.1 dX16_span_71 (by decide) (fun c10 => ?_) (fun c10 => ?_)
        · rw [if_pos c10] at hh
          refine lv_lload C.1 C.2.1 dX16_span_84 (lv_at hl 6 rfl) ?_
          refine lv_lload C.1 C.2.1 dX16_span_86 (lv_at hl 0 rfl) ?_
          refine r_cS C X hm hs mlX16_414 msX16_414 hh (vv := fun r => some (.long r)) (hp := fun r => r6.2) (fun r hg => c_J9_min_f86c9 l G r6.2 _ _ r hg) rfl rfl (Nat.le_of_ble_eq_true rfl) (Nat.le_of_ble_eq_true rfl) (Nat.le_of_ble_eq_true rfl) hl.1 dX16_span_88 (fun r8 H locs hgr8 hh hm hs => ?_)
          refine W.eq (g2 := F0 m 91 ls [.long r8]) rfl ?_
          exact B91 _ ih _ _ _ _ _ _ _ _ _ _ _  hm hs (lv_sub hl [1, 2, 3, 4, 5, 7] rfl) hh
        · rw [if_neg c10] at hh
          refine lv_lload C.1 C.2.1 dX16_span_74 (lv_at hl 6 rfl) ?_
          refine lv_lload C.1 C.2.1 dX16_span_76 (lv_at hl 0 rfl) ?_
          refine r_cS C X hm hs mlX16_408 msX16_408 hh (vv := fun r => some (.long r)) (hp := fun r => r6.2) (fun r hg => c_J9_max_f86c9 l G r6.2 _ _ r hg) rfl rfl (Nat.le_of_ble_eq_true rfl) (Nat.le_of_ble_eq_true rfl) (Nat.le_of_ble_eq_true rfl) hl.1 dX16_span_78 (fun r9 H locs hgr9 hh hm hs => ?_)
          refine W.eq (g2 := F0 m 81 ls [.long r9]) rfl ?_
          refine lv_goto (tgt := 91) C.1 C.2.1 dX16_span_81 (by decide) ?_
          exact B91 _ ih _ _ _ _ _ _ _ _ _ _ _  hm hs (lv_sub hl [1, 2, 3, 4, 5, 7] rfl) hh
  unfold mX16_span at hh
  refine r_aload_n C.1 C.2.1 dX16_span_0 rfl (lv_at hl 0 rfl) ?_
  refine lv_iconst (v := 0) C.1 C.2.1 dX16_span_1 (by decide) ?_
  refine r_putI C hm hs flX16_109 (Or.inl fm_17_0) dX16_span_2 hh (fun h12 H locs _ hh hm hs => ?_)
  refine r_aload_n C.1 C.2.1 dX16_span_5 rfl (lv_at hl 0 rfl) ?_
  refine lv_iload_n C.1 C.2.1 dX16_span_6 rfl (lv_at hl 1 rfl) ?_
  refine lv_iload_n C.1 C.2.1 dX16_span_7 rfl (lv_at hl 2 rfl) ?_
  refine lv_iload_n C.1 C.2.1 dX16_span_8 rfl (lv_at hl 3 rfl) ?_
  refine r_cV C X hm hs mlX16_393 mvX16_393 hh (vv := fun r => some (.int r)) (hp := fun r => h12) (fun b r hg => c_X16_isCell l G h12 b _ _ _ r hg) rfl rfl (Nat.le_of_ble_eq_true rfl) (Nat.le_of_ble_eq_true rfl) (Nat.le_of_ble_eq_true rfl) hl.1 dX16_span_9 (fun b14 r13 H locs hgr13 hh hm hs => ?_)
  refine W.eq (g2 := F0 m 12 ls [.int r13]) rfl ?_
  refine lv_if_ne (tgt := 21) C.1 C.2.1 dX16_span_12 (by decide) (fun c22 => ?_) (fun c22 => ?_)
  · rw [if_neg c22] at hh
    refine r_aload_n C.1 C.2.1 dX16_span_21 rfl (lv_at hl 0 rfl) ?_
    refine r_aload_n C.1 C.2.1 dX16_span_22 rfl (lv_at hl 0 rfl) ?_
    refine r_getR C hm flX16_15 dX16_span_23 hh (fun x15 _ hh => ?_)
    refine lv_iload_n C.1 C.2.1 dX16_span_26 rfl (lv_at hl 1 rfl) ?_
    refine r_ald_q C hm dX16_span_27 (kd := 26) (by decide) (t0 := 6) rfl hh (fun x16 _ hh => ?_)
    refine lv_iload_n C.1 C.2.1 dX16_span_28 rfl (lv_at hl 2 rfl) ?_
    refine lv_iload_n C.1 C.2.1 dX16_span_29 rfl (lv_at hl 3 rfl) ?_
    refine r_aload_n C.1 C.2.1 dX16_span_30 rfl (lv_at hl 0 rfl) ?_
    refine r_getI C hm flX16_314 dX16_span_31 hh (fun x17 _ hh => ?_)
    refine lv_iconst (v := 0) C.1 C.2.1 dX16_span_34 (by decide) ?_
    refine r_cV C X hm hs mlX16_400 mvX16_400 hh (vv := fun r => some (.long r.1)) (hp := fun r => r.2) (fun b r hg => c_X16_figureOf l G h12 b _ _ _ _ _ r hg) rfl rfl (Nat.le_of_ble_eq_true rfl) (Nat.le_of_ble_eq_true rfl) (Nat.le_of_ble_eq_true rfl) hl.1 dX16_span_35 (fun b19 r18 H locs hgr18 hh hm hs => ?_)
    refine W.eq (g2 := F0 m 38 ls [.long r18.1]) rfl ?_
    refine lv_lstore (i := 5) (lv' := [(5, .long r18.1), (0, va_rf (some a0)), (1, .int a1), (2, .int a2), (3, .int a3), (4, .int a4)]) C.1 C.2.1 dX16_span_38 hl (by decide) rfl (fun ls hl => ?_)
    refine lv_iconst (v := 1) C.1 C.2.1 dX16_span_40 (by decide) ?_
    refine lv_istore (i := 7) (lv' := [(7, .int 1), (5, .long r18.1), (0, va_rf (some a0)), (1, .int a1), (2, .int a2), (3, .int a3), (4, .int a4)]) C.1 C.2.1 dX16_span_41 hl (by decide) rfl (fun ls hl => ?_)
    exact B43 FUEL _ _ _ _ _ _ _ _ _ _ _  hm hs (lv_sub hl [2, 3, 4, 5, 6, 1, 0] rfl) hh
  · rw [if_pos c22] at hh
    refine r_aload_n C.1 C.2.1 dX16_span_15 rfl (lv_at hl 0 rfl) ?_
    refine lv_iconst (v := 1) C.1 C.2.1 dX16_span_16 (by decide) ?_
    refine r_cV C X hm hs mlX16_396 mvX16_396 hh (vv := fun r => some (.long r.1)) (hp := fun r => r.2) (fun b r hg => c_X16_lost l G h12 b _ r hg) rfl rfl (Nat.le_of_ble_eq_true rfl) (Nat.le_of_ble_eq_true rfl) (Nat.le_of_ble_eq_true rfl) hl.1 dX16_span_17 (fun b21 r20 H locs hgr20 hh hm hs => ?_)
    refine W.eq (g2 := F0 m 20 ls [.long r20.1]) rfl ?_
    exact r_lretW hQ C hr hm hs hh dX16_span_20
def mX16_far_b47 (h : MHp) (a0 : Nat) : Option (Int64 × MHp) := (rcv 17 h (some a0)).bind fun b2 => (mX16_lost h b2 2).bind fun r1 => some (r1.1, r1.2)
def mX16_far (h : MHp) (a0 : Nat) (a1 : Int32) (a2 : Int32) (a3 : Int32) (a4 : Int32) (a5 : Int32) : Option (Int64 × MHp) := (pI 17 0 h (some a0) 0).bind fun h3 => (rcv 17 h3 (some a0)).bind fun b5 => (mX16_isCell h3 b5 a1 a2 a3).bind fun r4 => (if r4 = 0 then (rcv 17 h3 (some a0)).bind fun b23 => (mX16_lost h3 b23 1).bind fun r22 => some (r22.1, r22.2) else (gI 17 19 h3 (some a0)).bind fun x6 => (mX16_in h3 a4 0 x6).bind fun r7 => (if r7 = 0 then mX16_far_b47 h3 a0 else (gI 17 19 h3 (some a0)).bind fun x8 => (mX16_in h3 a5 0 x8).bind fun r9 => (if r9 = 0 then mX16_far_b47 h3 a0 else (gR 17 6 h3 (some a0)).bind fun x10 => (gAR 26 h3 x10 a1).bind fun x11 => (rcv 17 h3 (some a0)).bind fun b13 => (mX16_figureOf h3 b13 x11 a2 a3 a5 0).bind fun r12 => (gR 17 6 r12.2 (some a0)).bind fun x14 => (gAR 26 r12.2 x14 a1).bind fun x15 => (rcv 17 r12.2 (some a0)).bind fun b17 => (mX16_figureOf r12.2 b17 x15 a2 a3 a4 0).bind fun r16 => (rcv 17 r16.2 (some a0)).bind fun b19 => (mX16_told r16.2 b19 (r12.1 - r16.1)).bind fun r18 => some (r18.1, r18.2))))
set_option maxRecDepth 100000 in
set_option maxHeartbeats 4000000 in
theorem c_X16_far (l : Launch) (G : Env0) (h : MHp) (a0 : Nat) (a1 : Int32) (a2 : Int32) (a3 : Int32) (a4 : Int32) (a5 : Int32) (res : Int64 × MHp) (hh : mX16_far h a0 a1 a2 a3 a4 a5 = some res) : MG l yX16_far cX16_far 6 (some .long) 4 104 0 0 G h [.ref a0, .int a1, .int a2, .int a3, .int a4, .int a5] (some (.long res.1)) (res.2) := by
  refine MG_of (own := RX16) (plainFor_of_name (by decide)) rfl (Nat.le_of_ble_eq_true rfl) ?_
  intro p e s m args below meth c Q ls hQ C X hin hm hs hl hr
  have hl : lv_has ls 6 [(0, va_rf (some a0)), (1, .int a1), (2, .int a2), (3, .int a3), (4, .int a4), (5, .int a5)] := hl
  have B47 : ∀ (h : MHp) (H : Heap) (locs : List Loc) (ls : Array Slot) (a0 : Nat) , mHp (gD G) (gC G) (gB G) h H → va_S (fun q => gB G ≤ q) s.heap H locs → lv_has ls 6 [(0, va_rf (some a0))] → mX16_far_b47 h a0 = some res → W p l e ({ frames := 4, cells := 0, slots := 0, locals := 104 }) s m args below meth c H locs 0 0 Q (F0 m 47 ls []) := by
    intro h H locs ls a0 hm hs hl hh
    unfold mX16_far_b47 at hh
    refine r_aload_n C.1 C.2.1 dX16_far_47 rfl (lv_at hl 0 rfl) ?_
    refine lv_iconst (v := 2) C.1 C.2.1 dX16_far_48 (by decide) ?_
    refine r_cV C X hm hs mlX16_396 mvX16_396 hh (vv := fun r => some (.long r.1)) (hp := fun r => r.2) (fun b r hg => c_X16_lost l G h b _ r hg) rfl rfl (Nat.le_of_ble_eq_true rfl) (Nat.le_of_ble_eq_true rfl) (Nat.le_of_ble_eq_true rfl) hl.1 dX16_far_49 (fun b2 r1 H locs hgr1 hh hm hs => ?_)
    refine W.eq (g2 := F0 m 52 ls [.long r1.1]) rfl ?_
    exact r_lretW hQ C hr hm hs hh dX16_far_52
  unfold mX16_far at hh
  refine r_aload_n C.1 C.2.1 dX16_far_0 rfl (lv_at hl 0 rfl) ?_
  refine lv_iconst (v := 0) C.1 C.2.1 dX16_far_1 (by decide) ?_
  refine r_putI C hm hs flX16_109 (Or.inl fm_17_0) dX16_far_2 hh (fun h3 H locs _ hh hm hs => ?_)
  refine r_aload_n C.1 C.2.1 dX16_far_5 rfl (lv_at hl 0 rfl) ?_
  refine lv_iload_n C.1 C.2.1 dX16_far_6 rfl (lv_at hl 1 rfl) ?_
  refine lv_iload_n C.1 C.2.1 dX16_far_7 rfl (lv_at hl 2 rfl) ?_
  refine lv_iload_n C.1 C.2.1 dX16_far_8 rfl (lv_at hl 3 rfl) ?_
  refine r_cV C X hm hs mlX16_393 mvX16_393 hh (vv := fun r => some (.int r)) (hp := fun r => h3) (fun b r hg => c_X16_isCell l G h3 b _ _ _ r hg) rfl rfl (Nat.le_of_ble_eq_true rfl) (Nat.le_of_ble_eq_true rfl) (Nat.le_of_ble_eq_true rfl) hl.1 dX16_far_9 (fun b5 r4 H locs hgr4 hh hm hs => ?_)
  refine W.eq (g2 := F0 m 12 ls [.int r4]) rfl ?_
  refine lv_if_ne (tgt := 21) C.1 C.2.1 dX16_far_12 (by decide) (fun c24 => ?_) (fun c24 => ?_)
  · rw [if_neg c24] at hh
    refine lv_iload C.1 C.2.1 dX16_far_21 (lv_at hl 4 rfl) ?_
    refine lv_iconst (v := 0) C.1 C.2.1 dX16_far_23 (by decide) ?_
    refine r_aload_n C.1 C.2.1 dX16_far_24 rfl (lv_at hl 0 rfl) ?_
    refine r_getI C hm flX16_314 dX16_far_25 hh (fun x6 _ hh => ?_)
    refine r_cS C X hm hs mlX16_231 msX16_231 hh (vv := fun r => some (.int r)) (hp := fun r => h3) (fun r hg => c_X16_in l G h3 _ _ _ r hg) rfl rfl (Nat.le_of_ble_eq_true rfl) (Nat.le_of_ble_eq_true rfl) (Nat.le_of_ble_eq_true rfl) hl.1 dX16_far_28 (fun r7 H locs hgr7 hh hm hs => ?_)
    refine W.eq (g2 := F0 m 31 ls [.int r7]) rfl ?_
    refine lv_if_eq (tgt := 47) C.1 C.2.1 dX16_far_31 (by decide) (fun c21 => ?_) (fun c21 => ?_)
    · rw [if_pos c21] at hh
      exact B47 _ _ _ _ _  hm hs (lv_sub hl [0] rfl) hh
    · rw [if_neg c21] at hh
      refine lv_iload C.1 C.2.1 dX16_far_34 (lv_at hl 5 rfl) ?_
      refine lv_iconst (v := 0) C.1 C.2.1 dX16_far_36 (by decide) ?_
      refine r_aload_n C.1 C.2.1 dX16_far_37 rfl (lv_at hl 0 rfl) ?_
      refine r_getI C hm flX16_314 dX16_far_38 hh (fun x8 _ hh => ?_)
      refine r_cS C X hm hs mlX16_231 msX16_231 hh (vv := fun r => some (.int r)) (hp := fun r => h3) (fun r hg => c_X16_in l G h3 _ _ _ r hg) rfl rfl (Nat.le_of_ble_eq_true rfl) (Nat.le_of_ble_eq_true rfl) (Nat.le_of_ble_eq_true rfl) hl.1 dX16_far_41 (fun r9 H locs hgr9 hh hm hs => ?_)
      refine W.eq (g2 := F0 m 44 ls [.int r9]) rfl ?_
      refine lv_if_ne (tgt := 53) C.1 C.2.1 dX16_far_44 (by decide) (fun c20 => ?_) (fun c20 => ?_)
      · rw [if_neg c20] at hh
        refine r_aload_n C.1 C.2.1 dX16_far_53 rfl (lv_at hl 0 rfl) ?_
        refine r_aload_n C.1 C.2.1 dX16_far_54 rfl (lv_at hl 0 rfl) ?_
        refine r_aload_n C.1 C.2.1 dX16_far_55 rfl (lv_at hl 0 rfl) ?_
        refine r_getR C hm flX16_15 dX16_far_56 hh (fun x10 _ hh => ?_)
        refine lv_iload_n C.1 C.2.1 dX16_far_59 rfl (lv_at hl 1 rfl) ?_
        refine r_ald_q C hm dX16_far_60 (kd := 26) (by decide) (t0 := 6) rfl hh (fun x11 _ hh => ?_)
        refine lv_iload_n C.1 C.2.1 dX16_far_61 rfl (lv_at hl 2 rfl) ?_
        refine lv_iload_n C.1 C.2.1 dX16_far_62 rfl (lv_at hl 3 rfl) ?_
        refine lv_iload C.1 C.2.1 dX16_far_63 (lv_at hl 5 rfl) ?_
        refine lv_iconst (v := 0) C.1 C.2.1 dX16_far_65 (by decide) ?_
        refine r_cV C X hm hs mlX16_400 mvX16_400 hh (vv := fun r => some (.long r.1)) (hp := fun r => r.2) (fun b r hg => c_X16_figureOf l G h3 b _ _ _ _ _ r hg) rfl rfl (by simp [va_cat, vc_i, vc_l, vc_r]) (Nat.le_of_ble_eq_true rfl) (Nat.le_of_ble_eq_true rfl) hl.1 dX16_far_66 (fun b13 r12 H locs hgr12 hh hm hs => ?_)
        refine W.eq (g2 := F0 m 69 ls [.long r12.1, va_rf (some a0)]) rfl ?_
        refine r_aload_n C.1 C.2.1 dX16_far_69 rfl (lv_at hl 0 rfl) ?_
        refine r_aload_n C.1 C.2.1 dX16_far_70 rfl (lv_at hl 0 rfl) ?_
        refine r_getR C hm flX16_15 dX16_far_71 hh (fun x14 _ hh => ?_)
        refine lv_iload_n C.1 C.2.1 dX16_far_74 rfl (lv_at hl 1 rfl) ?_
        refine r_ald_q C hm dX16_far_75 (kd := 26) (by decide) (t0 := 6) rfl hh (fun x15 _ hh => ?_)
        refine lv_iload_n C.1 C.2.1 dX16_far_76 rfl (lv_at hl 2 rfl) ?_
        refine lv_iload_n C.1 C.2.1 dX16_far_77 rfl (lv_at hl 3 rfl) ?_
        refine lv_iload C.1 C.2.1 dX16_far_78 (lv_at hl 4 rfl) ?_
        refine lv_iconst (v := 0) C.1 C.2.1 dX16_far_80 (by decide) ?_
        refine r_cV C X hm hs mlX16_400 mvX16_400 hh (vv := fun r => some (.long r.1)) (hp := fun r => r.2) (fun b r hg => c_X16_figureOf l G r12.2 b _ _ _ _ _ r hg) rfl rfl (by simp [va_cat, vc_i, vc_l, vc_r]) (Nat.le_of_ble_eq_true rfl) (Nat.le_of_ble_eq_true rfl) hl.1 dX16_far_81 (fun b17 r16 H locs hgr16 hh hm hs => ?_)
        refine W.eq (g2 := F0 m 84 ls [.long r16.1, .long r12.1, va_rf (some a0)]) rfl ?_
        refine lv_lsub C.1 C.2.1 dX16_far_84 ?_
        refine r_cV C X hm hs mlX16_404 mvX16_404 hh (vv := fun r => some (.long r.1)) (hp := fun r => r.2) (fun b r hg => c_X16_told l G r16.2 b _ r hg) rfl rfl (Nat.le_of_ble_eq_true rfl) (Nat.le_of_ble_eq_true rfl) (Nat.le_of_ble_eq_true rfl) hl.1 dX16_far_85 (fun b19 r18 H locs hgr18 hh hm hs => ?_)
        refine W.eq (g2 := F0 m 88 ls [.long r18.1]) rfl ?_
        exact r_lretW hQ C hr hm hs hh dX16_far_88
      · rw [if_pos c20] at hh
        exact B47 _ _ _ _ _  hm hs (lv_sub hl [0] rfl) hh
  · rw [if_pos c24] at hh
    refine r_aload_n C.1 C.2.1 dX16_far_15 rfl (lv_at hl 0 rfl) ?_
    refine lv_iconst (v := 1) C.1 C.2.1 dX16_far_16 (by decide) ?_
    refine r_cV C X hm hs mlX16_396 mvX16_396 hh (vv := fun r => some (.long r.1)) (hp := fun r => r.2) (fun b r hg => c_X16_lost l G h3 b _ r hg) rfl rfl (Nat.le_of_ble_eq_true rfl) (Nat.le_of_ble_eq_true rfl) (Nat.le_of_ble_eq_true rfl) hl.1 dX16_far_17 (fun b23 r22 H locs hgr22 hh hm hs => ?_)
    refine W.eq (g2 := F0 m 20 ls [.long r22.1]) rfl ?_
    exact r_lretW hQ C hr hm hs hh dX16_far_20
def mX16_known_b30 (h : MHp) (a0 : Nat) : Option (Int32 × MHp) := (rcv 17 h (some a0)).bind fun b2 => (mX16_denied h b2 1).bind fun r1 => (rB r1.1).bind fun _ => some (r1.1, r1.2)
def mX16_known_b104 (h : MHp) (a0 : Nat) (v1 : Int32) (v2 : Int32) (v3 : Int32) : Option (Int32 × MHp) := (pI 17 34 h (some a0) v1).bind fun h3 => (gR 17 35 h3 (some a0)).bind fun x4 => (pAI 20 h3 x4 v2 v3).bind fun h5 => (rcv 17 h5 (some a0)).bind fun b7 => (mX16_granted h5 b7).bind fun r6 => (rB r6.1).bind fun _ => some (r6.1, r6.2)
def mX16_known_l83 : Nat → MHp → Nat → Int32 → Int32 → Int32 → Int32 → Option (Int32 × MHp)
  | 0, _, _, _, _, _, _ => none
  | n + 1, h, a0, v1, v2, v3, v4 => (if 10 ≤ v4 then mX16_known_b104 h a0 v1 v2 v3 else (gR 17 35 h (some a0)).bind fun x8 => (pAI 20 h x8 v4 0).bind fun h9 => mX16_known_l83 n h9 a0 v1 v2 v3 (v4 + 1))
def mX16_known (h : MHp) (a0 : Nat) (a1 : Int32) (a2 : Int32) (a3 : Int32) : Option (Int32 × MHp) := (pI 17 0 h (some a0) 0).bind fun h11 => (rcv 17 h11 (some a0)).bind fun b13 => (mX16_isField h11 b13 a1).bind fun r12 => (if r12 = 0 then mX16_known_b30 h11 a0 else (gR 17 4 h11 (some a0)).bind fun x14 => (gR 13 3 h11 x14).bind fun x15 => (gAI 20 h11 x15 a1).bind fun x16 => (mX16_in h11 a2 0 x16).bind fun r17 => (if r17 = 0 then mX16_known_b30 h11 a0 else (mX16_in h11 a3 0 1000000).bind fun r18 => (if r18 = 0 then (rcv 17 h11 (some a0)).bind fun b28 => (mX16_denied h11 b28 2).bind fun r27 => (rB r27.1).bind fun _ => some (r27.1, r27.2) else (gR 17 4 h11 (some a0)).bind fun x19 => (gR 13 3 h11 x19).bind fun x20 => (gAI 20 h11 x20 a1).bind fun x21 => (if x21 ≤ 2 then (gI 17 34 h11 (some a0)).bind fun x22 => (if x22 = a1 then mX16_known_b104 h11 a0 a1 a2 a3 else mX16_known_l83 FUEL h11 a0 a1 a2 a3 0) else (rcv 17 h11 (some a0)).bind fun b25 => (mX16_denied h11 b25 5).bind fun r24 => (rB r24.1).bind fun _ => some (r24.1, r24.2)))))
set_option maxRecDepth 100000 in
set_option maxHeartbeats 4000000 in
theorem c_X16_known (l : Launch) (G : Env0) (h : MHp) (a0 : Nat) (a1 : Int32) (a2 : Int32) (a3 : Int32) (res : Int32 × MHp) (hh : mX16_known h a0 a1 a2 a3 = some res) : MG l yX16_known cX16_known 5 (some .boolean) 1 22 0 0 G h [.ref a0, .int a1, .int a2, .int a3] (some (.int res.1)) (res.2) := by
  refine MG_of (own := RX16) (plainFor_of_name (by decide)) rfl (Nat.le_of_ble_eq_true rfl) ?_
  intro p e s m args below meth c Q ls hQ C X hin hm hs hl hr
  have hl : lv_has ls 5 [(0, va_rf (some a0)), (1, .int a1), (2, .int a2), (3, .int a3)] := hl
  have B30 : ∀ (h : MHp) (H : Heap) (locs : List Loc) (ls : Array Slot) (a0 : Nat) , mHp (gD G) (gC G) (gB G) h H → va_S (fun q => gB G ≤ q) s.heap H locs → lv_has ls 5 [(0, va_rf (some a0))] → mX16_known_b30 h a0 = some res → W p l e ({ frames := 1, cells := 0, slots := 0, locals := 22 }) s m args below meth c H locs 0 0 Q (F0 m 30 ls []) := by
    intro h H locs ls a0 hm hs hl hh
    unfold mX16_known_b30 at hh
    refine r_aload_n C.1 C.2.1 dX16_known_30 rfl (lv_at hl 0 rfl) ?_
    refine lv_iconst (v := 1) C.1 C.2.1 dX16_known_31 (by decide) ?_
    refine r_cV C X hm hs mlX16_339 mvX16_339 hh (vv := fun r => some (.int r.1)) (hp := fun r => r.2) (fun b r hg => c_X16_denied l G h b _ r hg) rfl rfl (Nat.le_of_ble_eq_true rfl) (Nat.le_of_ble_eq_true rfl) (Nat.le_of_ble_eq_true rfl) hl.1 dX16_known_32 (fun b2 r1 H locs hgr1 hh hm hs => ?_)
    refine W.eq (g2 := F0 m 35 ls [.int r1.1]) rfl ?_
    exact r_rbretW hQ C hr hm hs hh dX16_known_35
  have B104 : ∀ (h : MHp) (H : Heap) (locs : List Loc) (ls : Array Slot) (a0 : Nat) (v1 : Int32) (v2 : Int32) (v3 : Int32) , mHp (gD G) (gC G) (gB G) h H → va_S (fun q => gB G ≤ q) s.heap H locs → lv_has ls 5 [(0, va_rf (some a0)), (1, .int v1), (2, .int v2), (3, .int v3)] → mX16_known_b104 h a0 v1 v2 v3 = some res → W p l e ({ frames := 1, cells := 0, slots := 0, locals := 22 }) s m args below meth c H locs 0 0 Q (F0 m 104 ls []) := by
    intro h H locs ls a0 v1 v2 v3 hm hs hl hh
    unfold mX16_known_b104 at hh
    refine r_aload_n C.1 C.2.1 dX16_known_104 rfl (lv_at hl 0 rfl) ?_
    refine lv_iload_n C.1 C.2.1 dX16_known_105 rfl (lv_at hl 1 rfl) ?_
    refine r_putI C hm hs flX16_73 (Or.inl fm_17_34) dX16_known_106 hh (fun h3 H locs _ hh hm hs => ?_)
    refine r_aload_n C.1 C.2.1 dX16_known_109 rfl (lv_at hl 0 rfl) ?_
    refine r_getR C hm flX16_76 dX16_known_110 hh (fun x4 _ hh => ?_)
    refine lv_iload_n C.1 C.2.1 dX16_known_113 rfl (lv_at hl 2 rfl) ?_
    refine lv_iload_n C.1 C.2.1 dX16_known_114 rfl (lv_at hl 3 rfl) ?_
    refine r_ast C hm hs dX16_known_115 hh (fun h5 H locs _ hh hm hs => ?_)
    refine r_aload_n C.1 C.2.1 dX16_known_116 rfl (lv_at hl 0 rfl) ?_
    refine r_cV C X hm hs mlX16_342 mvX16_342 hh (vv := fun r => some (.int r.1)) (hp := fun r => r.2) (fun b r hg => c_X16_granted l G h5 b  r hg) rfl rfl (Nat.le_of_ble_eq_true rfl) (Nat.le_of_ble_eq_true rfl) (Nat.le_of_ble_eq_true rfl) hl.1 dX16_known_117 (fun b7 r6 H locs hgr6 hh hm hs => ?_)
    refine W.eq (g2 := F0 m 120 ls [.int r6.1]) rfl ?_
    exact r_rbretW hQ C hr hm hs hh dX16_known_120
  have B83 : ∀ n : Nat, ∀ (h : MHp) (H : Heap) (locs : List Loc) (ls : Array Slot) (a0 : Nat) (v1 : Int32) (v2 : Int32) (v3 : Int32) (v4 : Int32) , mHp (gD G) (gC G) (gB G) h H → va_S (fun q => gB G ≤ q) s.heap H locs → lv_has ls 5 [(0, va_rf (some a0)), (1, .int v1), (2, .int v2), (3, .int v3), (4, .int v4)] → mX16_known_l83 n h a0 v1 v2 v3 v4 = some res → W p l e ({ frames := 1, cells := 0, slots := 0, locals := 22 }) s m args below meth c H locs 0 0 Q (F0 m 83 ls []) := by
    intro n
    induction n with
    | zero => intro h H locs ls a0 v1 v2 v3 v4 hm hs hl hh; cases hh
    | succ n ih =>
      intro h H locs ls a0 v1 v2 v3 v4 hm hs hl hh
      unfold mX16_known_l83 at hh
      refine lv_iload C.1 C.2.1 dX16_known_83 (lv_at hl 4 rfl) ?_
      refine lv_bipush (v := 10) C.1 C.2.1 dX16_known_85 (by decide) ?_
      refine lv_icmp_ge (tgt := 104) C.1 C.2.1 dX16_known_87 (by decide) (fun c10 => ?_) (fun c10 => ?_)
      · rw [if_pos c10] at hh
        exact B104 _ _ _ _ _ _ _ _  hm hs (lv_sub hl [0, 1, 2, 3] rfl) hh
      · rw [if_neg c10] at hh
        refine r_aload_n C.1 C.2.1 dX16_known_90 rfl (lv_at hl 0 rfl) ?_
        refine r_getR C hm flX16_76 dX16_known_91 hh (fun x8 _ hh => ?_)
        refine lv_iload C.1 C.2.1 dX16_known_94 (lv_at hl 4 rfl) ?_
        refine lv_iconst (v := 0) C.1 C.2.1 dX16_known_96 (by decide) ?_
        refine r_ast C hm hs dX16_known_97 hh (fun h9 H locs _ hh hm hs => ?_)
        refine lv_iinc (v := (v4 + 1)) (lv' := [(4, .int (v4 + 1)), (0, va_rf (some a0)), (1, .int v1), (2, .int v2), (3, .int v3)]) C.1 C.2.1 dX16_known_98 hl (k := 4) rfl rfl (by decide) rfl (fun ls hl => ?_)
        refine lv_goto (tgt := 83) C.1 C.2.1 dX16_known_101 (by decide) ?_
        exact ih _ _ _ _ _ _ _ _ _  hm hs (lv_sub hl [1, 2, 3, 4, 0] rfl) hh
  unfold mX16_known at hh
  refine r_aload_n C.1 C.2.1 dX16_known_0 rfl (lv_at hl 0 rfl) ?_
  refine lv_iconst (v := 0) C.1 C.2.1 dX16_known_1 (by decide) ?_
  refine r_putI C hm hs flX16_109 (Or.inl fm_17_0) dX16_known_2 hh (fun h11 H locs _ hh hm hs => ?_)
  refine r_aload_n C.1 C.2.1 dX16_known_5 rfl (lv_at hl 0 rfl) ?_
  refine lv_iload_n C.1 C.2.1 dX16_known_6 rfl (lv_at hl 1 rfl) ?_
  refine r_cV C X hm hs mlX16_330 mvX16_330 hh (vv := fun r => some (.int r)) (hp := fun r => h11) (fun b r hg => c_X16_isField l G h11 b _ r hg) rfl rfl (Nat.le_of_ble_eq_true rfl) (Nat.le_of_ble_eq_true rfl) (Nat.le_of_ble_eq_true rfl) hl.1 dX16_known_7 (fun b13 r12 H locs hgr12 hh hm hs => ?_)
  refine W.eq (g2 := F0 m 10 ls [.int r12]) rfl ?_
  refine lv_if_eq (tgt := 30) C.1 C.2.1 dX16_known_10 (by decide) (fun c31 => ?_) (fun c31 => ?_)
  · rw [if_pos c31] at hh
    exact B30 _ _ _ _ _  hm hs (lv_sub hl [0] rfl) hh
  · rw [if_neg c31] at hh
    refine lv_iload_n C.1 C.2.1 dX16_known_13 rfl (lv_at hl 2 rfl) ?_
    refine lv_iconst (v := 0) C.1 C.2.1 dX16_known_14 (by decide) ?_
    refine r_aload_n C.1 C.2.1 dX16_known_15 rfl (lv_at hl 0 rfl) ?_
    refine r_getR C hm flX16_274 dX16_known_16 hh (fun x14 _ hh => ?_)
    refine r_getR C hm flX16_235 dX16_known_19 hh (fun x15 _ hh => ?_)
    refine lv_iload_n C.1 C.2.1 dX16_known_22 rfl (lv_at hl 1 rfl) ?_
    refine r_ald C hm dX16_known_23 hh (fun x16 _ hh => ?_)
    refine r_cS C X hm hs mlX16_231 msX16_231 hh (vv := fun r => some (.int r)) (hp := fun r => h11) (fun r hg => c_X16_in l G h11 _ _ _ r hg) rfl rfl (Nat.le_of_ble_eq_true rfl) (Nat.le_of_ble_eq_true rfl) (Nat.le_of_ble_eq_true rfl) hl.1 dX16_known_24 (fun r17 H locs hgr17 hh hm hs => ?_)
    refine W.eq (g2 := F0 m 27 ls [.int r17]) rfl ?_
    refine lv_if_ne (tgt := 36) C.1 C.2.1 dX16_known_27 (by decide) (fun c30 => ?_) (fun c30 => ?_)
    · rw [if_neg c30] at hh
      refine lv_iload_n C.1 C.2.1 dX16_known_36 rfl (lv_at hl 3 rfl) ?_
      refine lv_iconst (v := 0) C.1 C.2.1 dX16_known_37 (by decide) ?_
      refine lv_ldcw (v := 1000000) C.1 C.2.1 C.2.2.2.1 (C.2.2.2.2.1 _ (in_tbl q_1883 rfl)) dX16_known_38 ?_
      refine r_cS C X hm hs mlX16_231 msX16_231 hh (vv := fun r => some (.int r)) (hp := fun r => h11) (fun r hg => c_X16_in l G h11 _ _ _ r hg) rfl rfl (Nat.le_of_ble_eq_true rfl) (Nat.le_of_ble_eq_true rfl) (Nat.le_of_ble_eq_true rfl) hl.1 dX16_known_41 (fun r18 H locs hgr18 hh hm hs => ?_)
      refine W.eq (g2 := F0 m 44 ls [.int r18]) rfl ?_
      refine lv_if_ne (tgt := 53) C.1 C.2.1 dX16_known_44 (by decide) (fun c29 => ?_) (fun c29 => ?_)
      · rw [if_neg c29] at hh
        refine r_aload_n C.1 C.2.1 dX16_known_53 rfl (lv_at hl 0 rfl) ?_
        refine r_getR C hm flX16_274 dX16_known_54 hh (fun x19 _ hh => ?_)
        refine r_getR C hm flX16_235 dX16_known_57 hh (fun x20 _ hh => ?_)
        refine lv_iload_n C.1 C.2.1 dX16_known_60 rfl (lv_at hl 1 rfl) ?_
        refine r_ald C hm dX16_known_61 hh (fun x21 _ hh => ?_)
        refine lv_iconst (v := 2) C.1 C.2.1 dX16_known_62 (by decide) ?_
        refine lv_icmp_le (tgt := 72) C.1 C.2.1 dX16_known_63 (by decide) (fun c26 => ?_) (fun c26 => ?_)
        · rw [if_pos c26] at hh
          refine r_aload_n C.1 C.2.1 dX16_known_72 rfl (lv_at hl 0 rfl) ?_
          refine r_getI C hm flX16_73 dX16_known_73 hh (fun x22 _ hh => ?_)
          refine lv_iload_n C.1 C.2.1 dX16_known_76 rfl (lv_at hl 1 rfl) ?_
          refine lv_icmp_eq (tgt := 104) C.1 C.2.1 dX16_known_77 (by decide) (fun c23 => ?_) (fun c23 => ?_)
          · rw [if_pos c23] at hh
            exact B104 _ _ _ _ _ _ _ _  hm hs (lv_sub hl [0, 1, 2, 3] rfl) hh
          · rw [if_neg c23] at hh
            refine lv_iconst (v := 0) C.1 C.2.1 dX16_known_80 (by decide) ?_
            refine lv_istore (i := 4) (lv' := [(4, .int 0), (0, va_rf (some a0)), (1, .int a1), (2, .int a2), (3, .int a3)]) C.1 C.2.1 dX16_known_81 hl (by decide) rfl (fun ls hl => ?_)
            exact B83 FUEL _ _ _ _ _ _ _ _ _  hm hs (lv_sub hl [1, 2, 3, 4, 0] rfl) hh
        · rw [if_neg c26] at hh
          refine r_aload_n C.1 C.2.1 dX16_known_66 rfl (lv_at hl 0 rfl) ?_
          refine lv_iconst (v := 5) C.1 C.2.1 dX16_known_67 (by decide) ?_
          refine r_cV C X hm hs mlX16_339 mvX16_339 hh (vv := fun r => some (.int r.1)) (hp := fun r => r.2) (fun b r hg => c_X16_denied l G h11 b _ r hg) rfl rfl (Nat.le_of_ble_eq_true rfl) (Nat.le_of_ble_eq_true rfl) (Nat.le_of_ble_eq_true rfl) hl.1 dX16_known_68 (fun b25 r24 H locs hgr24 hh hm hs => ?_)
          refine W.eq (g2 := F0 m 71 ls [.int r24.1]) rfl ?_
          exact r_rbretW hQ C hr hm hs hh dX16_known_71
      · rw [if_pos c29] at hh
        refine r_aload_n C.1 C.2.1 dX16_known_47 rfl (lv_at hl 0 rfl) ?_
        refine lv_iconst (v := 2) C.1 C.2.1 dX16_known_48 (by decide) ?_
        refine r_cV C X hm hs mlX16_339 mvX16_339 hh (vv := fun r => some (.int r.1)) (hp := fun r => r.2) (fun b r hg => c_X16_denied l G h11 b _ r hg) rfl rfl (Nat.le_of_ble_eq_true rfl) (Nat.le_of_ble_eq_true rfl) (Nat.le_of_ble_eq_true rfl) hl.1 dX16_known_49 (fun b28 r27 H locs hgr27 hh hm hs => ?_)
        refine W.eq (g2 := F0 m 52 ls [.int r27.1]) rfl ?_
        exact r_rbretW hQ C hr hm hs hh dX16_known_52
    · rw [if_pos c30] at hh
      exact B30 _ _ _ _ _  hm hs (lv_sub hl [0] rfl) hh
def mX16_common_l6 (h : MHp) : Nat → Int64 → Int64 → Option (Int64)
  | 0, _, _ => none
  | n + 1, v4, v6 => (if (lg_cmp v4 0) ≤ 0 then some v6 else (nzL v4).bind fun _ => mX16_common_l6 h n (v6 - v6 / v4 * v4) v4)
def mX16_common (h : MHp) (a0 : Int64) (a1 : Int64) : Option (Int64) := mX16_common_l6 h FUEL a0 a1
set_option maxRecDepth 100000 in
set_option maxHeartbeats 4000000 in
theorem c_X16_common (l : Launch) (G : Env0) (h : MHp) (a0 : Int64) (a1 : Int64) (res : Int64) (hh : mX16_common h a0 a1 = some res) : MG l yX16_common cX16_common 10 (some .long) 0 0 0 0 G h [.long a0, .long a1] (some (.long res)) (h) := by
  refine MG_of (own := RX16) (plainFor_of_name (by decide)) rfl (Nat.le_of_ble_eq_true rfl) ?_
  intro p e s m args below meth c Q ls hQ C X hin hm hs hl hr
  have hl : lv_has ls 10 [(0, .long a0), (2, .long a1)] := hl
  have B6 : ∀ n : Nat, ∀ (H : Heap) (locs : List Loc) (ls : Array Slot) (v4 : Int64) (v6 : Int64) , mHp (gD G) (gC G) (gB G) h H → va_S (fun q => gB G ≤ q) s.heap H locs → lv_has ls 10 [(4, .long v4), (6, .long v6)] → mX16_common_l6 h n v4 v6 = some res → W p l e ({ frames := 0, cells := 0, slots := 0, locals := 0 }) s m args below meth c H locs 0 0 Q (F0 m 6 ls []) := by
    intro n
    induction n with
    | zero => intro H locs ls v4 v6 hm hs hl hh; cases hh
    | succ n ih =>
      intro H locs ls v4 v6 hm hs hl hh
      unfold mX16_common_l6 at hh
      refine lv_lload C.1 C.2.1 dX16_common_6 (lv_at hl 0 rfl) ?_
      refine lv_lconst (v := 0) C.1 C.2.1 dX16_common_8 (by decide) ?_
      refine W.lcmp C.1 C.2.1 dX16_common_9 ?_
      refine lv_if_le (tgt := 31) C.1 C.2.1 dX16_common_10 (by decide) (fun c1 => ?_) (fun c1 => ?_)
      · rw [if_pos c1] at hh
        refine lv_lload C.1 C.2.1 dX16_common_31 (lv_at hl 1 rfl) ?_
        exact r_lretP hQ C hr hm hs hh dX16_common_33
      · rw [if_neg c1] at hh
        refine lv_lload C.1 C.2.1 dX16_common_13 (lv_at hl 1 rfl) ?_
        refine lv_lload C.1 C.2.1 dX16_common_15 (lv_at hl 0 rfl) ?_
        refine r_lrem C dX16_common_17 hh (fun _ hh => ?_)
        refine lv_lstore (i := 8) (lv' := [(8, .long (v6 - v6 / v4 * v4)), (4, .long v4), (6, .long v6)]) C.1 C.2.1 dX16_common_18 hl (by decide) rfl (fun ls hl => ?_)
        refine lv_lload C.1 C.2.1 dX16_common_20 (lv_at hl 1 rfl) ?_
        refine lv_lstore (i := 6) (lv' := [(6, .long v4), (8, .long (v6 - v6 / v4 * v4)), (4, .long v4)]) C.1 C.2.1 dX16_common_22 hl (by decide) rfl (fun ls hl => ?_)
        refine lv_lload C.1 C.2.1 dX16_common_24 (lv_at hl 1 rfl) ?_
        refine lv_lstore (i := 4) (lv' := [(4, .long (v6 - v6 / v4 * v4)), (6, .long v4), (8, .long (v6 - v6 / v4 * v4))]) C.1 C.2.1 dX16_common_26 hl (by decide) rfl (fun ls hl => ?_)
        refine lv_goto (tgt := 6) C.1 C.2.1 dX16_common_28 (by decide) ?_
        exact ih _ _ _ _ _  hm hs (lv_sub hl [0, 1] rfl) hh
  unfold mX16_common at hh
  refine lv_lload_n C.1 C.2.1 dX16_common_0 rfl (lv_at hl 0 rfl) ?_
  refine lv_lstore (i := 4) (lv' := [(4, .long a0), (0, .long a0), (2, .long a1)]) C.1 C.2.1 dX16_common_1 hl (by decide) rfl (fun ls hl => ?_)
  refine lv_lload_n C.1 C.2.1 dX16_common_3 rfl (lv_at hl 2 rfl) ?_
  refine lv_lstore (i := 6) (lv' := [(6, .long a1), (4, .long a0), (0, .long a0), (2, .long a1)]) C.1 C.2.1 dX16_common_4 hl (by decide) rfl (fun ls hl => ?_)
  exact B6 FUEL _ _ _ _ _  hm hs (lv_sub hl [1, 0] rfl) hh
def mX16_agreed_b227 (k52 : MHp → Nat → Int32 → Int32 → Int32 → Option Nat → Int64 → Int64 → Int32 → Option (Int64 × MHp)) (k78 : MHp → Nat → Int32 → Int32 → Int32 → Option Nat → Int64 → Int64 → Int32 → Int64 → Int64 → Int32 → Option (Int64 × MHp)) (h : MHp) (a0 : Nat) (v2 : Int32) (v3 : Int32) (v4 : Int32) (v5 : Option Nat) (v6 : Int64) (v8 : Int64) (v10 : Int32) (v11 : Int64) (v13 : Int64) (v15 : Int32) : Option (Int64 × MHp) := k78 h a0 v2 v3 v4 v5 v6 v8 v10 v11 v13 (v15 + 1)
def mX16_agreed_b224 (k52 : MHp → Nat → Int32 → Int32 → Int32 → Option Nat → Int64 → Int64 → Int32 → Option (Int64 × MHp)) (k78 : MHp → Nat → Int32 → Int32 → Int32 → Option Nat → Int64 → Int64 → Int32 → Int64 → Int64 → Int32 → Option (Int64 × MHp)) (h : MHp) (a0 : Nat) (v2 : Int32) (v3 : Int32) (v4 : Int32) (v5 : Option Nat) (v6 : Int64) (v8 : Int64) (v10 : Int32) (v13 : Int64) (v15 : Int32) (t0 : Int64) (t1 : Int64) : Option (Int64 × MHp) := mX16_agreed_b227 k52 k78 h a0 v2 v3 v4 v5 v6 v8 v10 (t0 + t1) v13 v15
def mX16_agreed_b218 (k52 : MHp → Nat → Int32 → Int32 → Int32 → Option Nat → Int64 → Int64 → Int32 → Option (Int64 × MHp)) (k78 : MHp → Nat → Int32 → Int32 → Int32 → Option Nat → Int64 → Int64 → Int32 → Int64 → Int64 → Int32 → Option (Int64 × MHp)) (h : MHp) (a0 : Nat) (v2 : Int32) (v3 : Int32) (v4 : Int32) (v5 : Option Nat) (v6 : Int64) (v8 : Int64) (v10 : Int32) (v13 : Int64) (v15 : Int32) (t0 : Int64) (t1 : Int64) (t2 : Int32) : Option (Int64 × MHp) := mX16_agreed_b224 k52 k78 h a0 v2 v3 v4 v5 v6 v8 v10 v13 v15 t0 (t1 * t2.toInt64)
def mX16_agreed_b272 (k52 : MHp → Nat → Int32 → Int32 → Int32 → Option Nat → Int64 → Int64 → Int32 → Option (Int64 × MHp)) (h : MHp) (a0 : Nat) (v2 : Int32) (v3 : Int32) (v4 : Int32) (v5 : Option Nat) (v6 : Int64) (v8 : Int64) (v10 : Int32) : Option (Int64 × MHp) := k52 h a0 v2 v3 v4 v5 v6 v8 (v10 + 1)
def mX16_agreed_l78 (k52 : MHp → Nat → Int32 → Int32 → Int32 → Option Nat → Int64 → Int64 → Int32 → Option (Int64 × MHp)) : Nat → MHp → Nat → Int32 → Int32 → Int32 → Option Nat → Int64 → Int64 → Int32 → Int64 → Int64 → Int32 → Option (Int64 × MHp)
  | 0, _, _, _, _, _, _, _, _, _, _, _, _ => none
  | n + 1, h, a0, v2, v3, v4, v5, v6, v8, v10, v11, v13, v15 => (gI 17 18 h (some a0)).bind fun x1 => (if x1 ≤ v15 then (if (lg_cmp v13 0) = 0 then mX16_agreed_b272 k52 h a0 v2 v3 v4 v5 v6 v8 v10 else (gR 17 35 h (some a0)).bind fun x2 => (gAI 20 h x2 v10).bind fun x3 => mX16_agreed_b272 k52 h a0 v2 v3 v4 v5 ((v6 * v13) + ((v11 * x3.toInt64) * v8)) (v8 * v13) v10) else (gI 17 19 h (some a0)).bind fun x5 => (rcv 17 h (some a0)).bind fun b7 => (mX16_isIn h b7 v5 v15 v2 v3 x5 0).bind fun r6 => (gI 17 19 r6.2 (some a0)).bind fun x8 => (rcv 17 r6.2 (some a0)).bind fun b10 => (mX16_isThere r6.2 b10 v15 x8).bind fun r9 => (if r9 = 0 then mX16_agreed_b227 k52 (mX16_agreed_l78 k52 n) r6.2 a0 v2 v3 v4 v5 v6 v8 v10 v11 v13 v15 else (gI 17 19 r6.2 (some a0)).bind fun x11 => (gR 17 29 r6.2 (some a0)).bind fun x12 => (rcv 17 r6.2 (some a0)).bind fun b14 => (mX16_loads r6.2 b14 v15 x11 0 x12).bind fun r13 => (gR 17 29 r13 (some a0)).bind fun x15 => (gI 17 34 r13 (some a0)).bind fun x16 => (gAI 20 r13 x15 x16).bind fun x17 => (if x17 = v10 then (gR 17 4 r13 (some a0)).bind fun x18 => (gR 17 29 r13 (some a0)).bind fun x19 => (rcv 13 r13 x18).bind fun b21 => (mX12_broken r13 b21 x19).bind fun r20 => (if r20 = (-1) then (gR 17 28 r13 (some a0)).bind fun x22 => (gAI 20 r13 x22 v15).bind fun x23 => (if r6.1 = 0 then mX16_agreed_b224 k52 (mX16_agreed_l78 k52 n) r13 a0 v2 v3 v4 v5 v6 v8 v10 (v13 + x23.toInt64) v15 v11 0 else (gR 17 28 r13 (some a0)).bind fun x24 => (gAI 20 r13 x24 v15).bind fun x25 => (gI 15 0 r13 v5).bind fun x26 => (if x26 = (-1) then mX16_agreed_b218 k52 (mX16_agreed_l78 k52 n) r13 a0 v2 v3 v4 v5 v6 v8 v10 (v13 + x23.toInt64) v15 v11 x25.toInt64 1 else (gR 17 29 r13 (some a0)).bind fun x27 => (gI 15 0 r13 v5).bind fun x28 => (gAI 20 r13 x27 x28).bind fun x29 => mX16_agreed_b218 k52 (mX16_agreed_l78 k52 n) r13 a0 v2 v3 v4 v5 v6 v8 v10 (v13 + x23.toInt64) v15 v11 x25.toInt64 x29)) else mX16_agreed_b227 k52 (mX16_agreed_l78 k52 n) r13 a0 v2 v3 v4 v5 v6 v8 v10 v11 v13 v15) else mX16_agreed_b227 k52 (mX16_agreed_l78 k52 n) r13 a0 v2 v3 v4 v5 v6 v8 v10 v11 v13 v15)))
def mX16_agreed_b306 (h : MHp) (t0 : Option Nat) (t1 : Int64) : Option (Int64 × MHp) := (rcv 17 h t0).bind fun b37 => (mX16_told h b37 t1).bind fun r36 => some (r36.1, r36.2)
def mX16_agreed_l52 : Nat → MHp → Nat → Int32 → Int32 → Int32 → Option Nat → Int64 → Int64 → Int32 → Option (Int64 × MHp)
  | 0, _, _, _, _, _, _, _, _, _ => none
  | n + 1, h, a0, v2, v3, v4, v5, v6, v8, v10 => (gR 17 4 h (some a0)).bind fun x38 => (gR 13 3 h x38).bind fun x39 => (gI 17 34 h (some a0)).bind fun x40 => (gAI 20 h x39 x40).bind fun x41 => (if x41 < v10 then (mX16_common h v6 v8).bind fun r42 => (if v4 = 0 then (nzL r42).bind fun _ => mX16_agreed_b306 h (some a0) (v6 / r42) else (nzL r42).bind fun _ => mX16_agreed_b306 h (some a0) (v8 / r42)) else mX16_agreed_l78 (mX16_agreed_l52 n) FUEL h a0 v2 v3 v4 v5 v6 v8 v10 0 0 0)
def mX16_agreed (h : MHp) (a0 : Nat) (a1 : Int32) (a2 : Int32) (a3 : Int32) (a4 : Int32) : Option (Int64 × MHp) := (pI 17 0 h (some a0) 0).bind fun h45 => (rcv 17 h45 (some a0)).bind fun b47 => (mX16_isCell h45 b47 a1 a2 a3).bind fun r46 => (if r46 = 0 then (rcv 17 h45 (some a0)).bind fun b55 => (mX16_lost h45 b55 1).bind fun r54 => some (r54.1, r54.2) else (gI 17 34 h45 (some a0)).bind fun x48 => (if x48 = (-1) then (rcv 17 h45 (some a0)).bind fun b52 => (mX16_lost h45 b52 5).bind fun r51 => some (r51.1, r51.2) else (gR 17 6 h45 (some a0)).bind fun x49 => (gAR 26 h45 x49 a1).bind fun x50 => mX16_agreed_l52 FUEL h45 a0 a2 a3 a4 x50 0 1 0))
set_option maxRecDepth 100000 in
set_option maxHeartbeats 4000000 in
theorem c_X16_agreed (l : Launch) (G : Env0) (h : MHp) (a0 : Nat) (a1 : Int32) (a2 : Int32) (a3 : Int32) (a4 : Int32) (res : Int64 × MHp) (hh : mX16_agreed h a0 a1 a2 a3 a4 = some res) : MG l yX16_agreed cX16_agreed 17 (some .long) 3 76 0 0 G h [.ref a0, .int a1, .int a2, .int a3, .int a4] (some (.long res.1)) (res.2) := by
  refine MG_of (own := RX16) (plainFor_of_name (by decide)) rfl (Nat.le_of_ble_eq_true rfl) ?_
  intro p e s m args below meth c Q ls hQ C X hin hm hs hl hr
  have hl : lv_has ls 17 [(0, va_rf (some a0)), (1, .int a1), (2, .int a2), (3, .int a3), (4, .int a4)] := hl
  have B227 : ∀ (k52 : MHp → Nat → Int32 → Int32 → Int32 → Option Nat → Int64 → Int64 → Int32 → Option (Int64 × MHp)), (∀ (h : MHp) (H : Heap) (locs : List Loc) (ls : Array Slot) (a0 : Nat) (v2 : Int32) (v3 : Int32) (v4 : Int32) (v5 : Option Nat) (v6 : Int64) (v8 : Int64) (v10 : Int32) , mHp (gD G) (gC G) (gB G) h H → va_S (fun q => gB G ≤ q) s.heap H locs → lv_has ls 17 [(0, va_rf (some a0)), (2, .int v2), (3, .int v3), (4, .int v4), (5, va_rf v5), (6, .long v6), (8, .long v8), (10, .int v10)] → k52 h a0 v2 v3 v4 v5 v6 v8 v10 = some res → W p l e ({ frames := 3, cells := 0, slots := 0, locals := 76 }) s m args below meth c H locs 0 0 Q (F0 m 52 ls [])) → ∀ (k78 : MHp → Nat → Int32 → Int32 → Int32 → Option Nat → Int64 → Int64 → Int32 → Int64 → Int64 → Int32 → Option (Int64 × MHp)), (∀ (h : MHp) (H : Heap) (locs : List Loc) (ls : Array Slot) (a0 : Nat) (v2 : Int32) (v3 : Int32) (v4 : Int32) (v5 : Option Nat) (v6 : Int64) (v8 : Int64) (v10 : Int32) (v11 : Int64) (v13 : Int64) (v15 : Int32) , mHp (gD G) (gC G) (gB G) h H → va_S (fun q => gB G ≤ q) s.heap H locs → lv_has ls 17 [(0, va_rf (some a0)), (2, .int v2), (3, .int v3), (4, .int v4), (5, va_rf v5), (6, .long v6), (8, .long v8), (10, .int v10), (11, .long v11), (13, .long v13), (15, .int v15)] → k78 h a0 v2 v3 v4 v5 v6 v8 v10 v11 v13 v15 = some res → W p l e ({ frames := 3, cells := 0, slots := 0, locals := 76 }) s m args below meth c H locs 0 0 Q (F0 m 78 ls [])) → ∀ (h : MHp) (H : Heap) (locs : List Loc) (ls : Array Slot) (a0 : Nat) (v2 : Int32) (v3 : Int32) (v4 : Int32) (v5 : Option Nat) (v6 : Int64) (v8 : Int64) (v10 : Int32) (v11 : Int64) (v13 : Int64) (v15 : Int32) , mHp (gD G) (gC G) (gB G) h H → va_S (fun q => gB G ≤ q) s.heap H locs → lv_has ls 17 [(0, va_rf (some a0)), (2, .int v2), (3, .int v3), (4, .int v4), (5, va_rf v5), (6, .long v6), (8, .long v8), (10, .int v10), (11, .long v11), (13, .long v13), (15, .int v15)] → mX16_agreed_b227 k52 k78 h a0 v2 v3 v4 v5 v6 v8 v10 v11 v13 v15 = some res → W p l e ({ frames := 3, cells := 0, slots := 0, locals := 76 }) s m args below meth c H locs 0 0 Q (F0 m 227 ls []) := by
    intro k52 hk52 k78 hk78 h H locs ls a0 v2 v3 v4 v5 v6 v8 v10 v11 v13 v15 hm hs hl hh
    unfold mX16_agreed_b227 at hh
    refine lv_iinc (v := (v15 + 1)) (lv' := [(15, .int (v15 + 1)), (0, va_rf (some a0)), (2, .int v2), (3, .int v3), (4, .int v4), (5, va_rf v5), (6, .long v6), (8, .long v8), (10, .int v10), (11, .long v11), (13, .long v13)]) C.1 C.2.1 dX16_agreed_227 hl (k := 10) rfl rfl (by decide) rfl (fun ls hl => ?_)
    refine lv_goto (tgt := 78) C.1 C.2.1 dX16_agreed_230 (by decide) ?_
    exact hk78 _ _ _ _ _ _ _ _ _ _ _ _ _ _ _  hm hs (lv_sub hl [1, 2, 3, 4, 5, 6, 7, 8, 9, 10, 0] rfl) hh
  have B224 : ∀ (k52 : MHp → Nat → Int32 → Int32 → Int32 → Option Nat → Int64 → Int64 → Int32 → Option (Int64 × MHp)), (∀ (h : MHp) (H : Heap) (locs : List Loc) (ls : Array Slot) (a0 : Nat) (v2 : Int32) (v3 : Int32) (v4 : Int32) (v5 : Option Nat) (v6 : Int64) (v8 : Int64) (v10 : Int32) , mHp (gD G) (gC G) (gB G) h H → va_S (fun q => gB G ≤ q) s.heap H locs → lv_has ls 17 [(0, va_rf (some a0)), (2, .int v2), (3, .int v3), (4, .int v4), (5, va_rf v5), (6, .long v6), (8, .long v8), (10, .int v10)] → k52 h a0 v2 v3 v4 v5 v6 v8 v10 = some res → W p l e ({ frames := 3, cells := 0, slots := 0, locals := 76 }) s m args below meth c H locs 0 0 Q (F0 m 52 ls [])) → ∀ (k78 : MHp → Nat → Int32 → Int32 → Int32 → Option Nat → Int64 → Int64 → Int32 → Int64 → Int64 → Int32 → Option (Int64 × MHp)), (∀ (h : MHp) (H : Heap) (locs : List Loc) (ls : Array Slot) (a0 : Nat) (v2 : Int32) (v3 : Int32) (v4 : Int32) (v5 : Option Nat) (v6 : Int64) (v8 : Int64) (v10 : Int32) (v11 : Int64) (v13 : Int64) (v15 : Int32) , mHp (gD G) (gC G) (gB G) h H → va_S (fun q => gB G ≤ q) s.heap H locs → lv_has ls 17 [(0, va_rf (some a0)), (2, .int v2), (3, .int v3), (4, .int v4), (5, va_rf v5), (6, .long v6), (8, .long v8), (10, .int v10), (11, .long v11), (13, .long v13), (15, .int v15)] → k78 h a0 v2 v3 v4 v5 v6 v8 v10 v11 v13 v15 = some res → W p l e ({ frames := 3, cells := 0, slots := 0, locals := 76 }) s m args below meth c H locs 0 0 Q (F0 m 78 ls [])) → ∀ (h : MHp) (H : Heap) (locs : List Loc) (ls : Array Slot) (a0 : Nat) (v2 : Int32) (v3 : Int32) (v4 : Int32) (v5 : Option Nat) (v6 : Int64) (v8 : Int64) (v10 : Int32) (v13 : Int64) (v15 : Int32) (t0 : Int64) (t1 : Int64) , mHp (gD G) (gC G) (gB G) h H → va_S (fun q => gB G ≤ q) s.heap H locs → lv_has ls 17 [(0, va_rf (some a0)), (2, .int v2), (3, .int v3), (4, .int v4), (5, va_rf v5), (6, .long v6), (8, .long v8), (10, .int v10), (13, .long v13), (15, .int v15)] → mX16_agreed_b224 k52 k78 h a0 v2 v3 v4 v5 v6 v8 v10 v13 v15 t0 t1 = some res → W p l e ({ frames := 3, cells := 0, slots := 0, locals := 76 }) s m args below meth c H locs 0 0 Q (F0 m 224 ls [.long t1, .long t0]) := by
    intro k52 hk52 k78 hk78 h H locs ls a0 v2 v3 v4 v5 v6 v8 v10 v13 v15 t0 t1 hm hs hl hh
    unfold mX16_agreed_b224 at hh
    refine lv_ladd C.1 C.2.1 dX16_agreed_224 ?_
    refine lv_lstore (i := 11) (lv' := [(11, .long (t0 + t1)), (0, va_rf (some a0)), (2, .int v2), (3, .int v3), (4, .int v4), (5, va_rf v5), (6, .long v6), (8, .long v8), (10, .int v10), (13, .long v13), (15, .int v15)]) C.1 C.2.1 dX16_agreed_225 hl (by decide) rfl (fun ls hl => ?_)
    exact B227 _ hk52 _ hk78 _ _ _ _ _ _ _ _ _ _ _ _ _ _ _  hm hs (lv_sub hl [1, 2, 3, 4, 5, 6, 7, 8, 0, 9, 10] rfl) hh
  have B218 : ∀ (k52 : MHp → Nat → Int32 → Int32 → Int32 → Option Nat → Int64 → Int64 → Int32 → Option (Int64 × MHp)), (∀ (h : MHp) (H : Heap) (locs : List Loc) (ls : Array Slot) (a0 : Nat) (v2 : Int32) (v3 : Int32) (v4 : Int32) (v5 : Option Nat) (v6 : Int64) (v8 : Int64) (v10 : Int32) , mHp (gD G) (gC G) (gB G) h H → va_S (fun q => gB G ≤ q) s.heap H locs → lv_has ls 17 [(0, va_rf (some a0)), (2, .int v2), (3, .int v3), (4, .int v4), (5, va_rf v5), (6, .long v6), (8, .long v8), (10, .int v10)] → k52 h a0 v2 v3 v4 v5 v6 v8 v10 = some res → W p l e ({ frames := 3, cells := 0, slots := 0, locals := 76 }) s m args below meth c H locs 0 0 Q (F0 m 52 ls [])) → ∀ (k78 : MHp → Nat → Int32 → Int32 → Int32 → Option Nat → Int64 → Int64 → Int32 → Int64 → Int64 → Int32 → Option (Int64 × MHp)), (∀ (h : MHp) (H : Heap) (locs : List Loc) (ls : Array Slot) (a0 : Nat) (v2 : Int32) (v3 : Int32) (v4 : Int32) (v5 : Option Nat) (v6 : Int64) (v8 : Int64) (v10 : Int32) (v11 : Int64) (v13 : Int64) (v15 : Int32) , mHp (gD G) (gC G) (gB G) h H → va_S (fun q => gB G ≤ q) s.heap H locs → lv_has ls 17 [(0, va_rf (some a0)), (2, .int v2), (3, .int v3), (4, .int v4), (5, va_rf v5), (6, .long v6), (8, .long v8), (10, .int v10), (11, .long v11), (13, .long v13), (15, .int v15)] → k78 h a0 v2 v3 v4 v5 v6 v8 v10 v11 v13 v15 = some res → W p l e ({ frames := 3, cells := 0, slots := 0, locals := 76 }) s m args below meth c H locs 0 0 Q (F0 m 78 ls [])) → ∀ (h : MHp) (H : Heap) (locs : List Loc) (ls : Array Slot) (a0 : Nat) (v2 : Int32) (v3 : Int32) (v4 : Int32) (v5 : Option Nat) (v6 : Int64) (v8 : Int64) (v10 : Int32) (v13 : Int64) (v15 : Int32) (t0 : Int64) (t1 : Int64) (t2 : Int32) , mHp (gD G) (gC G) (gB G) h H → va_S (fun q => gB G ≤ q) s.heap H locs → lv_has ls 17 [(0, va_rf (some a0)), (2, .int v2), (3, .int v3), (4, .int v4), (5, va_rf v5), (6, .long v6), (8, .long v8), (10, .int v10), (13, .long v13), (15, .int v15)] → mX16_agreed_b218 k52 k78 h a0 v2 v3 v4 v5 v6 v8 v10 v13 v15 t0 t1 t2 = some res → W p l e ({ frames := 3, cells := 0, slots := 0, locals := 76 }) s m args below meth c H locs 0 0 Q (F0 m 218 ls [.int t2, .long t1, .long t0]) := by
    intro k52 hk52 k78 hk78 h H locs ls a0 v2 v3 v4 v5 v6 v8 v10 v13 v15 t0 t1 t2 hm hs hl hh
    unfold mX16_agreed_b218 at hh
    refine lv_i2l (v := t2.toInt64) C.1 C.2.1 dX16_agreed_218 rfl ?_
    refine lv_lmul C.1 C.2.1 dX16_agreed_219 ?_
    refine lv_goto (tgt := 224) C.1 C.2.1 dX16_agreed_220 (by decide) ?_
    exact B224 _ hk52 _ hk78 _ _ _ _ _ _ _ _ _ _ _ _ _ _ _ _  hm hs (lv_sub hl [0, 1, 2, 3, 4, 5, 6, 7, 8, 9] rfl) hh
  have B272 : ∀ (k52 : MHp → Nat → Int32 → Int32 → Int32 → Option Nat → Int64 → Int64 → Int32 → Option (Int64 × MHp)), (∀ (h : MHp) (H : Heap) (locs : List Loc) (ls : Array Slot) (a0 : Nat) (v2 : Int32) (v3 : Int32) (v4 : Int32) (v5 : Option Nat) (v6 : Int64) (v8 : Int64) (v10 : Int32) , mHp (gD G) (gC G) (gB G) h H → va_S (fun q => gB G ≤ q) s.heap H locs → lv_has ls 17 [(0, va_rf (some a0)), (2, .int v2), (3, .int v3), (4, .int v4), (5, va_rf v5), (6, .long v6), (8, .long v8), (10, .int v10)] → k52 h a0 v2 v3 v4 v5 v6 v8 v10 = some res → W p l e ({ frames := 3, cells := 0, slots := 0, locals := 76 }) s m args below meth c H locs 0 0 Q (F0 m 52 ls [])) → ∀ (h : MHp) (H : Heap) (locs : List Loc) (ls : Array Slot) (a0 : Nat) (v2 : Int32) (v3 : Int32) (v4 : Int32) (v5 : Option Nat) (v6 : Int64) (v8 : Int64) (v10 : Int32) , mHp (gD G) (gC G) (gB G) h H → va_S (fun q => gB G ≤ q) s.heap H locs → lv_has ls 17 [(0, va_rf (some a0)), (2, .int v2), (3, .int v3), (4, .int v4), (5, va_rf v5), (6, .long v6), (8, .long v8), (10, .int v10)] → mX16_agreed_b272 k52 h a0 v2 v3 v4 v5 v6 v8 v10 = some res → W p l e ({ frames := 3, cells := 0, slots := 0, locals := 76 }) s m args below meth c H locs 0 0 Q (F0 m 272 ls []) := by
    intro k52 hk52 h H locs ls a0 v2 v3 v4 v5 v6 v8 v10 hm hs hl hh
    unfold mX16_agreed_b272 at hh
    refine lv_iinc (v := (v10 + 1)) (lv' := [(10, .int (v10 + 1)), (0, va_rf (some a0)), (2, .int v2), (3, .int v3), (4, .int v4), (5, va_rf v5), (6, .long v6), (8, .long v8)]) C.1 C.2.1 dX16_agreed_272 hl (k := 7) rfl rfl (by decide) rfl (fun ls hl => ?_)
    refine lv_goto (tgt := 52) C.1 C.2.1 dX16_agreed_275 (by decide) ?_
    exact hk52 _ _ _ _ _ _ _ _ _ _ _ _  hm hs (lv_sub hl [1, 2, 3, 4, 5, 6, 7, 0] rfl) hh
  have B78 : ∀ (k52 : MHp → Nat → Int32 → Int32 → Int32 → Option Nat → Int64 → Int64 → Int32 → Option (Int64 × MHp)), (∀ (h : MHp) (H : Heap) (locs : List Loc) (ls : Array Slot) (a0 : Nat) (v2 : Int32) (v3 : Int32) (v4 : Int32) (v5 : Option Nat) (v6 : Int64) (v8 : Int64) (v10 : Int32) , mHp (gD G) (gC G) (gB G) h H → va_S (fun q => gB G ≤ q) s.heap H locs → lv_has ls 17 [(0, va_rf (some a0)), (2, .int v2), (3, .int v3), (4, .int v4), (5, va_rf v5), (6, .long v6), (8, .long v8), (10, .int v10)] → k52 h a0 v2 v3 v4 v5 v6 v8 v10 = some res → W p l e ({ frames := 3, cells := 0, slots := 0, locals := 76 }) s m args below meth c H locs 0 0 Q (F0 m 52 ls [])) → ∀ n : Nat, ∀ (h : MHp) (H : Heap) (locs : List Loc) (ls : Array Slot) (a0 : Nat) (v2 : Int32) (v3 : Int32) (v4 : Int32) (v5 : Option Nat) (v6 : Int64) (v8 : Int64) (v10 : Int32) (v11 : Int64) (v13 : Int64) (v15 : Int32) , mHp (gD G) (gC G) (gB G) h H → va_S (fun q => gB G ≤ q) s.heap H locs → lv_has ls 17 [(0, va_rf (some a0)), (2, .int v2), (3, .int v3), (4, .int v4), (5, va_rf v5), (6, .long v6), (8, .long v8), (10, .int v10), (11, .long v11), (13, .long v13), (15, .int v15)] → mX16_agreed_l78 k52 n h a0 v2 v3 v4 v5 v6 v8 v10 v11 v13 v15 = some res → W p l e ({ frames := 3, cells := 0, slots := 0, locals := 76 }) s m args below meth c H locs 0 0 Q (F0 m 78 ls []) := by
    intro k52 hk52 n
    induction n with
    | zero => intro h H locs ls a0 v2 v3 v4 v5 v6 v8 v10 v11 v13 v15 hm hs hl hh; cases hh
    | succ n ih =>
      intro h H locs ls a0 v2 v3 v4 v5 v6 v8 v10 v11 v13 v15 hm hs hl hh
      unfold mX16_agreed_l78 at hh
      refine lv_iload C.1 C.2.1 dX16_agreed_78 (lv_at hl 10 rfl) ?_
      refine r_aload_n C.1 C.2.1 dX16_agreed_80 rfl (lv_at hl 0 rfl) ?_
      refine r_getI C hm flX16_308 dX16_agreed_81 hh (fun x1 _ hh => ?_)
      refine lv_icmp_ge (tgt := 233) C.1 C.2.1 dX16_agreed_84 (by decide) (fun c35 => ?_) (fun c35 => ?_)
      · rw [if_pos c35] at hh
        refine lv_lload C.1 C.2.1 dX16_agreed_233 (lv_at hl 9 rfl) ?_
        refine lv_lconst (v := 0) C.1 C.2.1 dX16_agreed_235 (by decide) ?_
        refine W.lcmp C.1 C.2.1 dX16_agreed_236 ?_
        refine lv_if_ne (tgt := 243) C.1 C.2.1 dX16_agreed_237 (by decide) (fun c4 => ?_) (fun c4 => ?_)
        · rw [if_neg c4] at hh
          refine lv_lload C.1 C.2.1 dX16_agreed_243 (lv_at hl 5 rfl) ?_
          refine lv_lload C.1 C.2.1 dX16_agreed_245 (lv_at hl 9 rfl) ?_
          refine lv_lmul C.1 C.2.1 dX16_agreed_247 ?_
          refine lv_lload C.1 C.2.1 dX16_agreed_248 (lv_at hl 8 rfl) ?_
          refine r_aload_n C.1 C.2.1 dX16_agreed_250 rfl (lv_at hl 0 rfl) ?_
          refine r_getR C hm flX16_76 dX16_agreed_251 hh (fun x2 _ hh => ?_)
          refine lv_iload C.1 C.2.1 dX16_agreed_254 (lv_at hl 7 rfl) ?_
          refine r_ald C hm dX16_agreed_256 hh (fun x3 _ hh => ?_)
          refine lv_i2l (v := x3.toInt64) C.1 C.2.1 dX16_agreed_257 rfl ?_
          refine lv_lmul C.1 C.2.1 dX16_agreed_258 ?_
          refine lv_lload C.1 C.2.1 dX16_agreed_259 (lv_at hl 6 rfl) ?_
          refine lv_lmul C.1 C.2.1 dX16_agreed_261 ?_
          refine lv_ladd C.1 C.2.1 dX16_agreed_262 ?_
          refine lv_lstore (i := 6) (lv' := [(6, .long ((v6 * v13) + ((v11 * x3.toInt64) * v8))), (0, va_rf (some a0)), (2, .int v2), (3, .int v3), (4, .int v4), (5, va_rf v5), (8, .long v8), (10, .int v10), (11, .long v11), (13, .long v13), (15, .int v15)]) C.1 C.2.1 dX16_agreed_263 hl (by decide) (by simp [va_cat, vc_i, vc_l, vc_r]) (fun ls hl => ?_)
          refine lv_lload C.1 C.2.1 dX16_agreed_265 (lv_at hl 6 rfl) ?_
          refine lv_lload C.1 C.2.1 dX16_agreed_267 (lv_at hl 9 rfl) ?_
          refine lv_lmul C.1 C.2.1 dX16_agreed_269 ?_
          refine lv_lstore (i := 8) (lv' := [(8, .long (v8 * v13)), (6, .long ((v6 * v13) + ((v11 * x3.toInt64) * v8))), (0, va_rf (some a0)), (2, .int v2), (3, .int v3), (4, .int v4), (5, va_rf v5), (10, .int v10), (11, .long v11), (13, .long v13), (15, .int v15)]) C.1 C.2.1 dX16_agreed_270 hl (by decide) rfl (fun ls hl => ?_)
          exact B272 _ hk52 _ _ _ _ _ _ _ _ _ _ _ _  hm hs (lv_sub hl [2, 3, 4, 5, 6, 1, 0, 7] rfl) hh
        · rw [if_pos c4] at hh
          refine lv_goto (tgt := 272) C.1 C.2.1 dX16_agreed_240 (by decide) ?_
          exact B272 _ hk52 _ _ _ _ _ _ _ _ _ _ _ _  hm hs (lv_sub hl [0, 1, 2, 3, 4, 5, 6, 7] rfl) hh
      · rw [if_neg c35] at hh
        refine r_aload_n C.1 C.2.1 dX16_agreed_87 rfl (lv_at hl 0 rfl) ?_
        refine r_aload C.1 C.2.1 dX16_agreed_88 (lv_at hl 4 rfl) ?_
        refine lv_iload C.1 C.2.1 dX16_agreed_90 (lv_at hl 10 rfl) ?_
        refine lv_iload_n C.1 C.2.1 dX16_agreed_92 rfl (lv_at hl 1 rfl) ?_
        refine lv_iload_n C.1 C.2.1 dX16_agreed_93 rfl (lv_at hl 2 rfl) ?_
        refine r_aload_n C.1 C.2.1 dX16_agreed_94 rfl (lv_at hl 0 rfl) ?_
        refine r_getI C hm flX16_314 dX16_agreed_95 hh (fun x5 _ hh => ?_)
        refine lv_iconst (v := 0) C.1 C.2.1 dX16_agreed_98 (by decide) ?_
        refine r_cV C X hm hs mlX16_389 mvX16_389 hh (vv := fun r => some (.int r.1)) (hp := fun r => r.2) (fun b r hg => c_X16_isIn l G h b _ _ _ _ _ _ r hg) rfl rfl (Nat.le_of_ble_eq_true rfl) (Nat.le_of_ble_eq_true rfl) (Nat.le_of_ble_eq_true rfl) hl.1 dX16_agreed_99 (fun b7 r6 H locs hgr6 hh hm hs => ?_)
        refine W.eq (g2 := F0 m 102 ls [.int r6.1]) rfl ?_
        refine lv_istore (i := 16) (lv' := [(16, .int r6.1), (0, va_rf (some a0)), (2, .int v2), (3, .int v3), (4, .int v4), (5, va_rf v5), (6, .long v6), (8, .long v8), (10, .int v10), (11, .long v11), (13, .long v13), (15, .int v15)]) C.1 C.2.1 dX16_agreed_102 hl (by decide) rfl (fun ls hl => ?_)
        refine r_aload_n C.1 C.2.1 dX16_agreed_104 rfl (lv_at hl 1 rfl) ?_
        refine lv_iload C.1 C.2.1 dX16_agreed_105 (lv_at hl 11 rfl) ?_
        refine r_aload_n C.1 C.2.1 dX16_agreed_107 rfl (lv_at hl 1 rfl) ?_
        refine r_getI C hm flX16_314 dX16_agreed_108 hh (fun x8 _ hh => ?_)
        refine r_cV C X hm hs mlX16_353 mvX16_353 hh (vv := fun r => some (.int r)) (hp := fun r => r6.2) (fun b r hg => c_X16_isThere l G r6.2 b _ _ r hg) rfl rfl (Nat.le_of_ble_eq_true rfl) (Nat.le_of_ble_eq_true rfl) (Nat.le_of_ble_eq_true rfl) hl.1 dX16_agreed_111 (fun b10 r9 H locs hgr9 hh hm hs => ?_)
        refine W.eq (g2 := F0 m 114 ls [.int r9]) rfl ?_
        refine lv_if_ne (tgt := 120) C.1 C.2.1 dX16_agreed_114 (by decide) (fun c34 => ?_) (fun c34 => ?_)
        · rw [if_neg c34] at hh
          refine r_aload_n C.1 C.2.1 dX16_agreed_120 rfl (lv_at hl 1 rfl) ?_
          refine lv_iload C.1 C.2.1 dX16_agreed_121 (lv_at hl 11 rfl) ?_
          refine r_aload_n C.1 C.2.1 dX16_agreed_123 rfl (lv_at hl 1 rfl) ?_
          refine r_getI C hm flX16_314 dX16_agreed_124 hh (fun x11 _ hh => ?_)
          refine lv_iconst (v := 0) C.1 C.2.1 dX16_agreed_127 (by decide) ?_
          refine r_aload_n C.1 C.2.1 dX16_agreed_128 rfl (lv_at hl 1 rfl) ?_
          refine r_getR C hm flX16_58 dX16_agreed_129 hh (fun x12 _ hh => ?_)
          refine r_cV C X hm hs mlX16_349 mvX16_349 hh (vv := fun r => none) (hp := fun r => r) (fun b r hg => c_X16_loads l G r6.2 b _ _ _ _ r hg) rfl rfl (Nat.le_of_ble_eq_true rfl) (Nat.le_of_ble_eq_true rfl) (Nat.le_of_ble_eq_true rfl) hl.1 dX16_agreed_132 (fun b14 r13 H locs hgr13 hh hm hs => ?_)
          refine W.eq (g2 := F0 m 135 ls []) rfl ?_
          refine r_aload_n C.1 C.2.1 dX16_agreed_135 rfl (lv_at hl 1 rfl) ?_
          refine r_getR C hm flX16_58 dX16_agreed_136 hh (fun x15 _ hh => ?_)
          refine r_aload_n C.1 C.2.1 dX16_agreed_139 rfl (lv_at hl 1 rfl) ?_
          refine r_getI C hm flX16_73 dX16_agreed_140 hh (fun x16 _ hh => ?_)
          refine r_ald C hm dX16_agreed_143 hh (fun x17 _ hh => ?_)
          refine lv_iload C.1 C.2.1 dX16_agreed_144 (lv_at hl 8 rfl) ?_
          refine lv_icmp_ne (tgt := 227) C.1 C.2.1 dX16_agreed_146 (by decide) (fun c33 => ?_) (fun c33 => ?_)
          · rw [if_neg c33] at hh
            exact B227 _ hk52 _ ih _ _ _ _ _ _ _ _ _ _ _ _ _ _ _  hm hs (lv_sub hl [1, 2, 3, 4, 5, 6, 7, 8, 9, 10, 11] rfl) hh
          · rw [if_pos c33] at hh
            refine r_aload_n C.1 C.2.1 dX16_agreed_149 rfl (lv_at hl 1 rfl) ?_
            refine r_getR C hm flX16_274 dX16_agreed_150 hh (fun x18 _ hh => ?_)
            refine r_aload_n C.1 C.2.1 dX16_agreed_153 rfl (lv_at hl 1 rfl) ?_
            refine r_getR C hm flX16_58 dX16_agreed_154 hh (fun x19 _ hh => ?_)
            refine r_cV C X hm hs mlX16_356 mvX16_356 hh (vv := fun r => some (.int r)) (hp := fun r => r13) (fun b r hg => c_X12_broken l G r13 b _ r hg) rfl rfl (Nat.le_of_ble_eq_true rfl) (Nat.le_of_ble_eq_true rfl) (Nat.le_of_ble_eq_true rfl) hl.1 dX16_agreed_157 (fun b21 r20 H locs hgr20 hh hm hs => ?_)
            refine W.eq (g2 := F0 m 160 ls [.int r20]) rfl ?_
            refine lv_iconst (v := (-1)) C.1 C.2.1 dX16_agreed_160 (by decide) ?_
            refine lv_icmp_eq (tgt := 167) C.1 C.2.1 dX16_agreed_161 (by decide) (fun c32 => ?_) (fun c32 => ?_)
            · rw [if_pos c32] at hh
              refine lv_lload C.1 C.2.1 dX16_agreed_167 (lv_at hl 10 rfl) ?_
              refine r_aload_n C.1 C.2.1 dX16_agreed_169 rfl (lv_at hl 1 rfl) ?_
              refine r_getR C hm flX16_55 dX16_agreed_170 hh (fun x22 _ hh => ?_)
              refine lv_iload C.1 C.2.1 dX16_agreed_173 (lv_at hl 11 rfl) ?_
              refine r_ald C hm dX16_agreed_175 hh (fun x23 _ hh => ?_)
              refine lv_i2l (v := x23.toInt64) C.1 C.2.1 dX16_agreed_176 rfl ?_
              refine lv_ladd C.1 C.2.1 dX16_agreed_177 ?_
              refine lv_lstore (i := 13) (lv' := [(13, .long (v13 + x23.toInt64)), (16, .int r6.1), (0, va_rf (some a0)), (2, .int v2), (3, .int v3), (4, .int v4), (5, va_rf v5), (6, .long v6), (8, .long v8), (10, .int v10), (11, .long v11), (15, .int v15)]) C.1 C.2.1 dX16_agreed_178 hl (by decide) rfl (fun ls hl => ?_)
              refine lv_lload C.1 C.2.1 dX16_agreed_180 (lv_at hl 10 rfl) ?_
              refine lv_iload C.1 C.2.1 dX16_agreed_182 (lv_at hl 1 rfl) ?_
              refine lv_if_eq (tgt := 223) C.1 C.2.1 dX16_agreed_184 (by decide) (fun c31 => ?_) (fun c31 => ?_)
              · rw [if_pos c31] at hh
                refine lv_lconst (v := 0) C.1 C.2.1 dX16_agreed_223 (by decide) ?_
                exact B224 _ hk52 _ ih _ _ _ _ _ _ _ _ _ _ _ _ _ _ _ _  hm hs (lv_sub hl [2, 3, 4, 5, 6, 7, 8, 9, 0, 11] rfl) hh
              · rw [if_neg c31] at hh
                refine r_aload_n C.1 C.2.1 dX16_agreed_187 rfl (lv_at hl 2 rfl) ?_
                refine r_getR C hm flX16_55 dX16_agreed_188 hh (fun x24 _ hh => ?_)
                refine lv_iload C.1 C.2.1 dX16_agreed_191 (lv_at hl 11 rfl) ?_
                refine r_ald C hm dX16_agreed_193 hh (fun x25 _ hh => ?_)
                refine lv_i2l (v := x25.toInt64) C.1 C.2.1 dX16_agreed_194 rfl ?_
                refine r_aload C.1 C.2.1 dX16_agreed_195 (lv_at hl 6 rfl) ?_
                refine r_getI C hm flX16_277 dX16_agreed_197 hh (fun x26 _ hh => ?_)
                refine lv_iconst (v := (-1)) C.1 C.2.1 dX16_agreed_200 (by decide) ?_
                refine lv_icmp_ne (tgt := 208) C.1 C.2.1 dX16_agreed_201 (by decide) (fun c30 => ?_) (fun c30 => ?_)
                · rw [if_neg c30] at hh
                  refine r_aload_n C.1 C.2.1 dX16_agreed_208 rfl (lv_at hl 2 rfl) ?_
                  refine r_getR C hm flX16_58 dX16_agreed_209 hh (fun x27 _ hh => ?_)
                  refine r_aload C.1 C.2.1 dX16_agreed_212 (lv_at hl 6 rfl) ?_
                  refine r_getI C hm flX16_277 dX16_agreed_214 hh (fun x28 _ hh => ?_)
                  refine r_ald C hm dX16_agreed_217 hh (fun x29 _ hh => ?_)
                  exact B218 _ hk52 _ ih _ _ _ _ _ _ _ _ _ _ _ _ _ _ _ _ _  hm hs (lv_sub hl [2, 3, 4, 5, 6, 7, 8, 9, 0, 11] rfl) hh
                · rw [if_pos c30] at hh
                  refine lv_iconst (v := 1) C.1 C.2.1 dX16_agreed_204 (by decide) ?_
                  refine lv_goto (tgt := 218) C.1 C.2.1 dX16_agreed_205 (by decide) ?_
                  exact B218 _ hk52 _ ih _ _ _ _ _ _ _ _ _ _ _ _ _ _ _ _ _  hm hs (lv_sub hl [2, 3, 4, 5, 6, 7, 8, 9, 0, 11] rfl) hh
            · rw [if_neg c32] at hh
              refine lv_goto (tgt := 227) C.1 C.2.1 dX16_agreed_164 (by decide) ?_
              exact B227 _ hk52 _ ih _ _ _ _ _ _ _ _ _ _ _ _ _ _ _  hm hs (lv_sub hl [1, 2, 3, 4, 5, 6, 7, 8, 9, 10, 11] rfl) hh
        · rw [if_pos c34] at hh
          refine lv_goto (tgt := 227) C.1 C.2.1 dX16_agreed_117 (by decide) ?_
          exact B227 _ hk52 _ ih _ _ _ _ _ _ _ _ _ _ _ _ _ _ _  hm hs (lv_sub hl [1, 2, 3, 4, 5, 6, 7, 8, 9, 10, 11] rfl) hh
  have B306 : ∀ (h : MHp) (H : Heap) (locs : List Loc) (ls : Array Slot) (t0 : Option Nat) (t1 : Int64) , mHp (gD G) (gC G) (gB G) h H → va_S (fun q => gB G ≤ q) s.heap H locs → lv_has ls 17 [] → mX16_agreed_b306 h t0 t1 = some res → W p l e ({ frames := 3, cells := 0, slots := 0, locals := 76 }) s m args below meth c H locs 0 0 Q (F0 m 306 ls [.long t1, va_rf t0]) := by
    intro h H locs ls t0 t1 hm hs hl hh
    unfold mX16_agreed_b306 at hh
    refine r_cV C X hm hs mlX16_404 mvX16_404 hh (vv := fun r => some (.long r.1)) (hp := fun r => r.2) (fun b r hg => c_X16_told l G h b _ r hg) rfl rfl (Nat.le_of_ble_eq_true rfl) (Nat.le_of_ble_eq_true rfl) (Nat.le_of_ble_eq_true rfl) hl.1 dX16_agreed_306 (fun b37 r36 H locs hgr36 hh hm hs => ?_)
    refine W.eq (g2 := F0 m 309 ls [.long r36.1]) rfl ?_
    exact r_lretW hQ C hr hm hs hh dX16_agreed_309
  have B52 : ∀ n : Nat, ∀ (h : MHp) (H : Heap) (locs : List Loc) (ls : Array Slot) (a0 : Nat) (v2 : Int32) (v3 : Int32) (v4 : Int32) (v5 : Option Nat) (v6 : Int64) (v8 : Int64) (v10 : Int32) , mHp (gD G) (gC G) (gB G) h H → va_S (fun q => gB G ≤ q) s.heap H locs → lv_has ls 17 [(0, va_rf (some a0)), (2, .int v2), (3, .int v3), (4, .int v4), (5, va_rf v5), (6, .long v6), (8, .long v8), (10, .int v10)] → mX16_agreed_l52 n h a0 v2 v3 v4 v5 v6 v8 v10 = some res → W p l e ({ frames := 3, cells := 0, slots := 0, locals := 76 }) s m args below meth c H locs 0 0 Q (F0 m 52 ls []) := by
    intro n
    induction n with
    | zero => intro h H locs ls a0 v2 v3 v4 v5 v6 v8 v10 hm hs hl hh; cases hh
    | succ n ih =>
      intro h H locs ls a0 v2 v3 v4 v5 v6 v8 v10 hm hs hl hh
      unfold mX16_agreed_l52 at hh
      refine lv_iload C.1 C.2.1 dX16_agreed_52 (lv_at hl 7 rfl) ?_
      refine r_aload_n C.1 C.2.1 dX16_agreed_54 rfl (lv_at hl 0 rfl) ?_
      refine r_getR C hm flX16_274 dX16_agreed_55 hh (fun x38 _ hh => ?_)
      refine r_getR C hm flX16_235 dX16_agreed_58 hh (fun x39 _ hh => ?_)
      refine r_aload_n C.1 C.2.1 dX16_agreed_61 rfl (lv_at hl 0 rfl) ?_
      refine r_getI C hm flX16_73 dX16_agreed_62 hh (fun x40 _ hh => ?_)
      refine r_ald C hm dX16_agreed_65 hh (fun x41 _ hh => ?_)
      refine lv_icmp_gt (tgt := 278) C.1 C.2.1 dX16_agreed_66 (by decide) (fun c44 => ?_) (fun c44 => ?_)
      · rw [if_pos c44] at hh
        refine lv_lload C.1 C.2.1 dX16_agreed_278 (lv_at hl 5 rfl) ?_
        refine lv_lload C.1 C.2.1 dX16_agreed_280 (lv_at hl 6 rfl) ?_
        refine r_cS C X hm hs mlX16_417 msX16_417 hh (vv := fun r => some (.long r)) (hp := fun r => h) (fun r hg => c_X16_common l G h _ _ r hg) rfl rfl (Nat.le_of_ble_eq_true rfl) (Nat.le_of_ble_eq_true rfl) (Nat.le_of_ble_eq_true rfl) hl.1 dX16_agreed_282 (fun r42 H locs hgr42 hh hm hs => ?_)
        refine W.eq (g2 := F0 m 285 ls [.long r42]) rfl ?_
        refine lv_lstore (i := 10) (lv' := [(10, .long r42), (0, va_rf (some a0)), (2, .int v2), (3, .int v3), (4, .int v4), (5, va_rf v5), (6, .long v6), (8, .long v8)]) C.1 C.2.1 dX16_agreed_285 hl (by decide) rfl (fun ls hl => ?_)
        refine r_aload_n C.1 C.2.1 dX16_agreed_287 rfl (lv_at hl 1 rfl) ?_
        refine lv_iload C.1 C.2.1 dX16_agreed_288 (lv_at hl 4 rfl) ?_
        refine lv_if_eq (tgt := 301) C.1 C.2.1 dX16_agreed_290 (by decide) (fun c43 => ?_) (fun c43 => ?_)
        · rw [if_pos c43] at hh
          refine lv_lload C.1 C.2.1 dX16_agreed_301 (lv_at hl 6 rfl) ?_
          refine lv_lload C.1 C.2.1 dX16_agreed_303 (lv_at hl 0 rfl) ?_
          refine r_ldiv C dX16_agreed_305 hh (fun _ hh => ?_)
          exact B306 _ _ _ _ _ _  hm hs (lv_sub hl [] rfl) hh
        · rw [if_neg c43] at hh
          refine lv_lload C.1 C.2.1 dX16_agreed_293 (lv_at hl 7 rfl) ?_
          refine lv_lload C.1 C.2.1 dX16_agreed_295 (lv_at hl 0 rfl) ?_
          refine r_ldiv C dX16_agreed_297 hh (fun _ hh => ?_)
          refine lv_goto (tgt := 306) C.1 C.2.1 dX16_agreed_298 (by decide) ?_
          exact B306 _ _ _ _ _ _  hm hs (lv_sub hl [] rfl) hh
      · rw [if_neg c44] at hh
        refine lv_lconst (v := 0) C.1 C.2.1 dX16_agreed_69 (by decide) ?_
        refine lv_lstore (i := 11) (lv' := [(11, .long 0), (0, va_rf (some a0)), (2, .int v2), (3, .int v3), (4, .int v4), (5, va_rf v5), (6, .long v6), (8, .long v8), (10, .int v10)]) C.1 C.2.1 dX16_agreed_70 hl (by decide) rfl (fun ls hl => ?_)
        refine lv_lconst (v := 0) C.1 C.2.1 dX16_agreed_72 (by decide) ?_
        refine lv_lstore (i := 13) (lv' := [(13, .long 0), (11, .long 0), (0, va_rf (some a0)), (2, .int v2), (3, .int v3), (4, .int v4), (5, va_rf v5), (6, .long v6), (8, .long v8), (10, .int v10)]) C.1 C.2.1 dX16_agreed_73 hl (by decide) rfl (fun ls hl => ?_)
        refine lv_iconst (v := 0) C.1 C.2.1 dX16_agreed_75 (by decide) ?_
        refine lv_istore (i := 15) (lv' := [(15, .int 0), (13, .long 0), (11, .long 0), (0, va_rf (some a0)), (2, .int v2), (3, .int v3), (4, .int v4), (5, va_rf v5), (6, .long v6), (8, .long v8), (10, .int v10)]) C.1 C.2.1 dX16_agreed_76 hl (by decide) rfl (fun ls hl => ?_)
        exact B78 _ ih FUEL _ _ _ _ _ _ _ _ _ _ _ _ _ _ _  hm hs (lv_sub hl [3, 4, 5, 6, 7, 8, 9, 10, 2, 1, 0] rfl) hh
  unfold mX16_agreed at hh
  refine r_aload_n C.1 C.2.1 dX16_agreed_0 rfl (lv_at hl 0 rfl) ?_
  refine lv_iconst (v := 0) C.1 C.2.1 dX16_agreed_1 (by decide) ?_
  refine r_putI C hm hs flX16_109 (Or.inl fm_17_0) dX16_agreed_2 hh (fun h45 H locs _ hh hm hs => ?_)
  refine r_aload_n C.1 C.2.1 dX16_agreed_5 rfl (lv_at hl 0 rfl) ?_
  refine lv_iload_n C.1 C.2.1 dX16_agreed_6 rfl (lv_at hl 1 rfl) ?_
  refine lv_iload_n C.1 C.2.1 dX16_agreed_7 rfl (lv_at hl 2 rfl) ?_
  refine lv_iload_n C.1 C.2.1 dX16_agreed_8 rfl (lv_at hl 3 rfl) ?_
  refine r_cV C X hm hs mlX16_393 mvX16_393 hh (vv := fun r => some (.int r)) (hp := fun r => h45) (fun b r hg => c_X16_isCell l G h45 b _ _ _ r hg) rfl rfl (Nat.le_of_ble_eq_true rfl) (Nat.le_of_ble_eq_true rfl) (Nat.le_of_ble_eq_true rfl) hl.1 dX16_agreed_9 (fun b47 r46 H locs hgr46 hh hm hs => ?_)
  refine W.eq (g2 := F0 m 12 ls [.int r46]) rfl ?_
  refine lv_if_ne (tgt := 21) C.1 C.2.1 dX16_agreed_12 (by decide) (fun c56 => ?_) (fun c56 => ?_)
  · rw [if_neg c56] at hh
    refine r_aload_n C.1 C.2.1 dX16_agreed_21 rfl (lv_at hl 0 rfl) ?_
    refine r_getI C hm flX16_73 dX16_agreed_22 hh (fun x48 _ hh => ?_)
    refine lv_iconst (v := (-1)) C.1 C.2.1 dX16_agreed_25 (by decide) ?_
    refine lv_icmp_ne (tgt := 35) C.1 C.2.1 dX16_agreed_26 (by decide) (fun c53 => ?_) (fun c53 => ?_)
    · rw [if_neg c53] at hh
      refine r_aload_n C.1 C.2.1 dX16_agreed_35 rfl (lv_at hl 0 rfl) ?_
      refine r_getR C hm flX16_15 dX16_agreed_36 hh (fun x49 _ hh => ?_)
      refine lv_iload_n C.1 C.2.1 dX16_agreed_39 rfl (lv_at hl 1 rfl) ?_
      refine r_ald_q C hm dX16_agreed_40 (kd := 26) (by decide) (t0 := 6) rfl hh (fun x50 _ hh => ?_)
      refine r_astore (i := 5) (lv' := [(5, va_rf x50), (0, va_rf (some a0)), (1, .int a1), (2, .int a2), (3, .int a3), (4, .int a4)]) C.1 C.2.1 dX16_agreed_41 hl (by decide) rfl (fun ls hl => ?_)
      refine lv_lconst (v := 0) C.1 C.2.1 dX16_agreed_43 (by decide) ?_
      refine lv_lstore (i := 6) (lv' := [(6, .long 0), (5, va_rf x50), (0, va_rf (some a0)), (1, .int a1), (2, .int a2), (3, .int a3), (4, .int a4)]) C.1 C.2.1 dX16_agreed_44 hl (by decide) (by simp [va_cat, vc_i, vc_l, vc_r]) (fun ls hl => ?_)
      refine lv_lconst (v := 1) C.1 C.2.1 dX16_agreed_46 (by decide) ?_
      refine lv_lstore (i := 8) (lv' := [(8, .long 1), (6, .long 0), (5, va_rf x50), (0, va_rf (some a0)), (1, .int a1), (2, .int a2), (3, .int a3), (4, .int a4)]) C.1 C.2.1 dX16_agreed_47 hl (by decide) rfl (fun ls hl => ?_)
      refine lv_iconst (v := 0) C.1 C.2.1 dX16_agreed_49 (by decide) ?_
      refine lv_istore (i := 10) (lv' := [(10, .int 0), (8, .long 1), (6, .long 0), (5, va_rf x50), (0, va_rf (some a0)), (1, .int a1), (2, .int a2), (3, .int a3), (4, .int a4)]) C.1 C.2.1 dX16_agreed_50 hl (by decide) rfl (fun ls hl => ?_)
      exact B52 FUEL _ _ _ _ _ _ _ _ _ _ _ _  hm hs (lv_sub hl [4, 6, 7, 8, 3, 2, 1, 0] rfl) hh
    · rw [if_pos c53] at hh
      refine r_aload_n C.1 C.2.1 dX16_agreed_29 rfl (lv_at hl 0 rfl) ?_
      refine lv_iconst (v := 5) C.1 C.2.1 dX16_agreed_30 (by decide) ?_
      refine r_cV C X hm hs mlX16_396 mvX16_396 hh (vv := fun r => some (.long r.1)) (hp := fun r => r.2) (fun b r hg => c_X16_lost l G h45 b _ r hg) rfl rfl (Nat.le_of_ble_eq_true rfl) (Nat.le_of_ble_eq_true rfl) (Nat.le_of_ble_eq_true rfl) hl.1 dX16_agreed_31 (fun b52 r51 H locs hgr51 hh hm hs => ?_)
      refine W.eq (g2 := F0 m 34 ls [.long r51.1]) rfl ?_
      exact r_lretW hQ C hr hm hs hh dX16_agreed_34
  · rw [if_pos c56] at hh
    refine r_aload_n C.1 C.2.1 dX16_agreed_15 rfl (lv_at hl 0 rfl) ?_
    refine lv_iconst (v := 1) C.1 C.2.1 dX16_agreed_16 (by decide) ?_
    refine r_cV C X hm hs mlX16_396 mvX16_396 hh (vv := fun r => some (.long r.1)) (hp := fun r => r.2) (fun b r hg => c_X16_lost l G h45 b _ r hg) rfl rfl (Nat.le_of_ble_eq_true rfl) (Nat.le_of_ble_eq_true rfl) (Nat.le_of_ble_eq_true rfl) hl.1 dX16_agreed_17 (fun b55 r54 H locs hgr54 hh hm hs => ?_)
    refine W.eq (g2 := F0 m 20 ls [.long r54.1]) rfl ?_
    exact r_lretW hQ C hr hm hs hh dX16_agreed_20
def mX16_group_b30 (h : MHp) (a0 : Nat) : Option (Int32 × MHp) := (rcv 17 h (some a0)).bind fun b2 => (mX16_denied h b2 1).bind fun r1 => (rB r1.1).bind fun _ => some (r1.1, r1.2)
def mX16_group (h : MHp) (a0 : Nat) (a1 : Int32) (a2 : Int32) (a3 : Int32) : Option (Int32 × MHp) := (pI 17 0 h (some a0) 0).bind fun h3 => (rcv 17 h3 (some a0)).bind fun b5 => (mX16_isField h3 b5 a1).bind fun r4 => (if r4 = 0 then mX16_group_b30 h3 a0 else (gR 17 4 h3 (some a0)).bind fun x6 => (gR 13 3 h3 x6).bind fun x7 => (gAI 20 h3 x7 a1).bind fun x8 => (mX16_in h3 a2 0 x8).bind fun r9 => (if r9 = 0 then mX16_group_b30 h3 a0 else (mX16_in h3 a3 0 9).bind fun r10 => (if r10 = 0 then (rcv 17 h3 (some a0)).bind fun b16 => (mX16_denied h3 b16 2).bind fun r15 => (rB r15.1).bind fun _ => some (r15.1, r15.2) else (gR 17 36 h3 (some a0)).bind fun x11 => (pAI 20 h3 x11 ((10 * a1) + a2) a3).bind fun h12 => (rcv 17 h12 (some a0)).bind fun b14 => (mX16_granted h12 b14).bind fun r13 => (rB r13.1).bind fun _ => some (r13.1, r13.2))))
set_option maxRecDepth 100000 in
set_option maxHeartbeats 4000000 in
theorem c_X16_group (l : Launch) (G : Env0) (h : MHp) (a0 : Nat) (a1 : Int32) (a2 : Int32) (a3 : Int32) (res : Int32 × MHp) (hh : mX16_group h a0 a1 a2 a3 = some res) : MG l yX16_group cX16_group 4 (some .boolean) 1 22 0 0 G h [.ref a0, .int a1, .int a2, .int a3] (some (.int res.1)) (res.2) := by
  refine MG_of (own := RX16) (plainFor_of_name (by decide)) rfl (Nat.le_of_ble_eq_true rfl) ?_
  intro p e s m args below meth c Q ls hQ C X hin hm hs hl hr
  have hl : lv_has ls 4 [(0, va_rf (some a0)), (1, .int a1), (2, .int a2), (3, .int a3)] := hl
  have B30 : ∀ (h : MHp) (H : Heap) (locs : List Loc) (ls : Array Slot) (a0 : Nat) , mHp (gD G) (gC G) (gB G) h H → va_S (fun q => gB G ≤ q) s.heap H locs → lv_has ls 4 [(0, va_rf (some a0))] → mX16_group_b30 h a0 = some res → W p l e ({ frames := 1, cells := 0, slots := 0, locals := 22 }) s m args below meth c H locs 0 0 Q (F0 m 30 ls []) := by
    intro h H locs ls a0 hm hs hl hh
    unfold mX16_group_b30 at hh
    refine r_aload_n C.1 C.2.1 dX16_group_30 rfl (lv_at hl 0 rfl) ?_
    refine lv_iconst (v := 1) C.1 C.2.1 dX16_group_31 (by decide) ?_
    refine r_cV C X hm hs mlX16_339 mvX16_339 hh (vv := fun r => some (.int r.1)) (hp := fun r => r.2) (fun b r hg => c_X16_denied l G h b _ r hg) rfl rfl (Nat.le_of_ble_eq_true rfl) (Nat.le_of_ble_eq_true rfl) (Nat.le_of_ble_eq_true rfl) hl.1 dX16_group_32 (fun b2 r1 H locs hgr1 hh hm hs => ?_)
    refine W.eq (g2 := F0 m 35 ls [.int r1.1]) rfl ?_
    exact r_rbretW hQ C hr hm hs hh dX16_group_35
  unfold mX16_group at hh
  refine r_aload_n C.1 C.2.1 dX16_group_0 rfl (lv_at hl 0 rfl) ?_
  refine lv_iconst (v := 0) C.1 C.2.1 dX16_group_1 (by decide) ?_
  refine r_putI C hm hs flX16_109 (Or.inl fm_17_0) dX16_group_2 hh (fun h3 H locs _ hh hm hs => ?_)
  refine r_aload_n C.1 C.2.1 dX16_group_5 rfl (lv_at hl 0 rfl) ?_
  refine lv_iload_n C.1 C.2.1 dX16_group_6 rfl (lv_at hl 1 rfl) ?_
  refine r_cV C X hm hs mlX16_330 mvX16_330 hh (vv := fun r => some (.int r)) (hp := fun r => h3) (fun b r hg => c_X16_isField l G h3 b _ r hg) rfl rfl (Nat.le_of_ble_eq_true rfl) (Nat.le_of_ble_eq_true rfl) (Nat.le_of_ble_eq_true rfl) hl.1 dX16_group_7 (fun b5 r4 H locs hgr4 hh hm hs => ?_)
  refine W.eq (g2 := F0 m 10 ls [.int r4]) rfl ?_
  refine lv_if_eq (tgt := 30) C.1 C.2.1 dX16_group_10 (by decide) (fun c19 => ?_) (fun c19 => ?_)
  · rw [if_pos c19] at hh
    exact B30 _ _ _ _ _  hm hs (lv_sub hl [0] rfl) hh
  · rw [if_neg c19] at hh
    refine lv_iload_n C.1 C.2.1 dX16_group_13 rfl (lv_at hl 2 rfl) ?_
    refine lv_iconst (v := 0) C.1 C.2.1 dX16_group_14 (by decide) ?_
    refine r_aload_n C.1 C.2.1 dX16_group_15 rfl (lv_at hl 0 rfl) ?_
    refine r_getR C hm flX16_274 dX16_group_16 hh (fun x6 _ hh => ?_)
    refine r_getR C hm flX16_235 dX16_group_19 hh (fun x7 _ hh => ?_)
    refine lv_iload_n C.1 C.2.1 dX16_group_22 rfl (lv_at hl 1 rfl) ?_
    refine r_ald C hm dX16_group_23 hh (fun x8 _ hh => ?_)
    refine r_cS C X hm hs mlX16_231 msX16_231 hh (vv := fun r => some (.int r)) (hp := fun r => h3) (fun r hg => c_X16_in l G h3 _ _ _ r hg) rfl rfl (Nat.le_of_ble_eq_true rfl) (Nat.le_of_ble_eq_true rfl) (Nat.le_of_ble_eq_true rfl) hl.1 dX16_group_24 (fun r9 H locs hgr9 hh hm hs => ?_)
    refine W.eq (g2 := F0 m 27 ls [.int r9]) rfl ?_
    refine lv_if_ne (tgt := 36) C.1 C.2.1 dX16_group_27 (by decide) (fun c18 => ?_) (fun c18 => ?_)
    · rw [if_neg c18] at hh
      refine lv_iload_n C.1 C.2.1 dX16_group_36 rfl (lv_at hl 3 rfl) ?_
      refine lv_iconst (v := 0) C.1 C.2.1 dX16_group_37 (by decide) ?_
      refine lv_bipush (v := 9) C.1 C.2.1 dX16_group_38 (by decide) ?_
      refine r_cS C X hm hs mlX16_231 msX16_231 hh (vv := fun r => some (.int r)) (hp := fun r => h3) (fun r hg => c_X16_in l G h3 _ _ _ r hg) rfl rfl (Nat.le_of_ble_eq_true rfl) (Nat.le_of_ble_eq_true rfl) (Nat.le_of_ble_eq_true rfl) hl.1 dX16_group_40 (fun r10 H locs hgr10 hh hm hs => ?_)
      refine W.eq (g2 := F0 m 43 ls [.int r10]) rfl ?_
      refine lv_if_ne (tgt := 52) C.1 C.2.1 dX16_group_43 (by decide) (fun c17 => ?_) (fun c17 => ?_)
      · rw [if_neg c17] at hh
        refine r_aload_n C.1 C.2.1 dX16_group_52 rfl (lv_at hl 0 rfl) ?_
        refine r_getR C hm flX16_79 dX16_group_53 hh (fun x11 _ hh => ?_)
        refine lv_bipush (v := 10) C.1 C.2.1 dX16_group_56 (by decide) ?_
        refine lv_iload_n C.1 C.2.1 dX16_group_58 rfl (lv_at hl 1 rfl) ?_
        refine lv_imul C.1 C.2.1 dX16_group_59 ?_
        refine lv_iload_n C.1 C.2.1 dX16_group_60 rfl (lv_at hl 2 rfl) ?_
        refine lv_iadd C.1 C.2.1 dX16_group_61 ?_
        refine lv_iload_n C.1 C.2.1 dX16_group_62 rfl (lv_at hl 3 rfl) ?_
        refine r_ast C hm hs dX16_group_63 hh (fun h12 H locs _ hh hm hs => ?_)
        refine r_aload_n C.1 C.2.1 dX16_group_64 rfl (lv_at hl 0 rfl) ?_
        refine r_cV C X hm hs mlX16_342 mvX16_342 hh (vv := fun r => some (.int r.1)) (hp := fun r => r.2) (fun b r hg => c_X16_granted l G h12 b  r hg) rfl rfl (Nat.le_of_ble_eq_true rfl) (Nat.le_of_ble_eq_true rfl) (Nat.le_of_ble_eq_true rfl) hl.1 dX16_group_65 (fun b14 r13 H locs hgr13 hh hm hs => ?_)
        refine W.eq (g2 := F0 m 68 ls [.int r13.1]) rfl ?_
        exact r_rbretW hQ C hr hm hs hh dX16_group_68
      · rw [if_pos c17] at hh
        refine r_aload_n C.1 C.2.1 dX16_group_46 rfl (lv_at hl 0 rfl) ?_
        refine lv_iconst (v := 2) C.1 C.2.1 dX16_group_47 (by decide) ?_
        refine r_cV C X hm hs mlX16_339 mvX16_339 hh (vv := fun r => some (.int r.1)) (hp := fun r => r.2) (fun b r hg => c_X16_denied l G h3 b _ r hg) rfl rfl (Nat.le_of_ble_eq_true rfl) (Nat.le_of_ble_eq_true rfl) (Nat.le_of_ble_eq_true rfl) hl.1 dX16_group_48 (fun b16 r15 H locs hgr15 hh hm hs => ?_)
        refine W.eq (g2 := F0 m 51 ls [.int r15.1]) rfl ?_
        exact r_rbretW hQ C hr hm hs hh dX16_group_51
    · rw [if_pos c18] at hh
      exact B30 _ _ _ _ _  hm hs (lv_sub hl [0] rfl) hh
def mX16_thousandths_b181 (k9 : MHp → Nat → Option Nat → Int32 → Int32 → Int32 → Int32 → Int32 → Int32 → Option (Int32 × MHp)) (h : MHp) (a0 : Nat) (v1 : Option Nat) (v2 : Int32) (v3 : Int32) (v4 : Int32) (v5 : Int32) (v6 : Int32) (v7 : Int32) : Option (Int32 × MHp) := k9 h a0 v1 v2 v3 v4 v5 v6 (v7 + 1)
def mX16_thousandths_b178 (k9 : MHp → Nat → Option Nat → Int32 → Int32 → Int32 → Int32 → Int32 → Int32 → Option (Int32 × MHp)) (h : MHp) (a0 : Nat) (v1 : Option Nat) (v2 : Int32) (v3 : Int32) (v4 : Int32) (v5 : Int32) (v7 : Int32) (t0 : Int32) (t1 : Int32) : Option (Int32 × MHp) := mX16_thousandths_b181 k9 h a0 v1 v2 v3 v4 v5 (t0 + t1) v7
def mX16_thousandths_b173 (k9 : MHp → Nat → Option Nat → Int32 → Int32 → Int32 → Int32 → Int32 → Int32 → Option (Int32 × MHp)) (h : MHp) (a0 : Nat) (v1 : Option Nat) (v2 : Int32) (v3 : Int32) (v4 : Int32) (v5 : Int32) (v7 : Int32) (t0 : Int32) : Option (Int32 × MHp) := mX16_thousandths_b178 k9 h a0 v1 v2 v3 v4 v5 v7 t0 1
def mX16_thousandths_b137 (k9 : MHp → Nat → Option Nat → Int32 → Int32 → Int32 → Int32 → Int32 → Int32 → Option (Int32 × MHp)) (h : MHp) (a0 : Nat) (v1 : Option Nat) (v2 : Int32) (v3 : Int32) (v4 : Int32) (v5 : Int32) (v6 : Int32) (v7 : Int32) (t0 : Int32) : Option (Int32 × MHp) := (if t0 = 0 then mX16_thousandths_b181 k9 h a0 v1 v2 v3 v4 v5 v6 v7 else (gR 15 3 h v1).bind fun x1 => (if x1 = none then mX16_thousandths_b173 k9 h a0 v1 v2 v3 v4 (v5 + 1) v7 v6 else (gR 15 3 h v1).bind fun x2 => (gR 17 29 h (some a0)).bind fun x3 => (rcv 16 h x2).bind fun b5 => (mX15_holds h b5 x3).bind fun r4 => (if r4 = 0 then mX16_thousandths_b178 k9 h a0 v1 v2 v3 v4 (v5 + 1) v7 v6 0 else mX16_thousandths_b173 k9 h a0 v1 v2 v3 v4 (v5 + 1) v7 v6)))
def mX16_thousandths_b122 (k9 : MHp → Nat → Option Nat → Int32 → Int32 → Int32 → Int32 → Int32 → Int32 → Option (Int32 × MHp)) (h : MHp) (a0 : Nat) (v1 : Option Nat) (v2 : Int32) (v3 : Int32) (v4 : Int32) (v5 : Int32) (v6 : Int32) (v7 : Int32) : Option (Int32 × MHp) := mX16_thousandths_b137 k9 h a0 v1 v2 v3 v4 v5 v6 v7 0
def mX16_thousandths_l9 : Nat → MHp → Nat → Option Nat → Int32 → Int32 → Int32 → Int32 → Int32 → Int32 → Option (Int32 × MHp)
  | 0, _, _, _, _, _, _, _, _, _ => none
  | n + 1, h, a0, v1, v2, v3, v4, v5, v6, v7 => (gI 17 18 h (some a0)).bind fun x9 => (if x9 ≤ v7 then (pI 17 41 h (some a0) v5).bind fun h10 => (if v5 = 0 then some (0, h10) else (nz v5).bind fun _ => some (((1000 * v6) / v5), h10)) else (gI 17 19 h (some a0)).bind fun x12 => (rcv 17 h (some a0)).bind fun b14 => (mX16_isThere h b14 v7 x12).bind fun r13 => (if r13 = 0 then mX16_thousandths_b181 (mX16_thousandths_l9 n) h a0 v1 v2 v3 v4 v5 v6 v7 else (gI 17 19 h (some a0)).bind fun x15 => (gR 17 29 h (some a0)).bind fun x16 => (rcv 17 h (some a0)).bind fun b18 => (mX16_loads h b18 v7 x15 0 x16).bind fun r17 => (gR 17 29 r17 (some a0)).bind fun x19 => (gAI 20 r17 x19 v2).bind fun x20 => (if x20 = (-1) then mX16_thousandths_b181 (mX16_thousandths_l9 n) r17 a0 v1 v2 v3 v4 v5 v6 v7 else (gR 17 4 r17 (some a0)).bind fun x21 => (gR 17 29 r17 (some a0)).bind fun x22 => (rcv 13 r17 x21).bind fun b24 => (mX12_broken r17 b24 x22).bind fun r23 => (if r23 = (-1) then (if v4 = 0 then (if x20 = v3 then mX16_thousandths_b137 (mX16_thousandths_l9 n) r17 a0 v1 v2 v3 v4 v5 v6 v7 1 else mX16_thousandths_b137 (mX16_thousandths_l9 n) r17 a0 v1 v2 v3 v4 v5 v6 v7 0) else (if x20 = v3 then mX16_thousandths_b122 (mX16_thousandths_l9 n) r17 a0 v1 v2 v3 v4 v5 v6 v7 else (gR 17 36 r17 (some a0)).bind fun x26 => (gAI 20 r17 x26 ((10 * v2) + x20)).bind fun x27 => (gR 17 36 r17 (some a0)).bind fun x28 => (gAI 20 r17 x28 ((10 * v2) + v3)).bind fun x29 => (if x27 = x29 then mX16_thousandths_b137 (mX16_thousandths_l9 n) r17 a0 v1 v2 v3 v4 v5 v6 v7 1 else mX16_thousandths_b122 (mX16_thousandths_l9 n) r17 a0 v1 v2 v3 v4 v5 v6 v7))) else mX16_thousandths_b181 (mX16_thousandths_l9 n) r17 a0 v1 v2 v3 v4 v5 v6 v7))))
def mX16_thousandths (h : MHp) (a0 : Nat) (a1 : Option Nat) (a2 : Int32) (a3 : Int32) (a4 : Int32) : Option (Int32 × MHp) := mX16_thousandths_l9 FUEL h a0 a1 a2 a3 a4 0 0 0
set_option maxRecDepth 100000 in
set_option maxHeartbeats 4000000 in
theorem c_X16_thousandths (l : Launch) (G : Env0) (h : MHp) (a0 : Nat) (a1 : Option Nat) (a2 : Int32) (a3 : Int32) (a4 : Int32) (res : Int32 × MHp) (hh : mX16_thousandths h a0 a1 a2 a3 a4 = some res) : MG l yX16_thousandths cX16_thousandths 10 (some .int) 2 50 0 0 G h [.ref a0, va_rf a1, .int a2, .int a3, .int a4] (some (.int res.1)) (res.2) := by
  refine MG_of (own := RX16) (plainFor_of_name (by decide)) rfl (by simp [lg_sl, va_cat, vc_i, vc_l, vc_r]) ?_
  intro p e s m args below meth c Q ls hQ C X hin hm hs hl hr
  have hl : lv_has ls 10 [(0, .ref a0), (1, va_rf a1), (2, .int a2), (3, .int a3), (4, .int a4)] := by simpa [lv_args, va_cat, vc_i, vc_l, vc_r] using hl
  have hl : lv_has ls 10 [(0, va_rf (some a0)), (1, va_rf a1), (2, .int a2), (3, .int a3), (4, .int a4)] := hl
  have B181 : ∀ (k9 : MHp → Nat → Option Nat → Int32 → Int32 → Int32 → Int32 → Int32 → Int32 → Option (Int32 × MHp)), (∀ (h : MHp) (H : Heap) (locs : List Loc) (ls : Array Slot) (a0 : Nat) (v1 : Option Nat) (v2 : Int32) (v3 : Int32) (v4 : Int32) (v5 : Int32) (v6 : Int32) (v7 : Int32) , mHp (gD G) (gC G) (gB G) h H → va_S (fun q => gB G ≤ q) s.heap H locs → lv_has ls 10 [(0, va_rf (some a0)), (1, va_rf v1), (2, .int v2), (3, .int v3), (4, .int v4), (5, .int v5), (6, .int v6), (7, .int v7)] → k9 h a0 v1 v2 v3 v4 v5 v6 v7 = some res → W p l e ({ frames := 2, cells := 0, slots := 0, locals := 50 }) s m args below meth c H locs 0 0 Q (F0 m 9 ls [])) → ∀ (h : MHp) (H : Heap) (locs : List Loc) (ls : Array Slot) (a0 : Nat) (v1 : Option Nat) (v2 : Int32) (v3 : Int32) (v4 : Int32) (v5 : Int32) (v6 : Int32) (v7 : Int32) , mHp (gD G) (gC G) (gB G) h H → va_S (fun q => gB G ≤ q) s.heap H locs → lv_has ls 10 [(0, va_rf (some a0)), (1, va_rf v1), (2, .int v2), (3, .int v3), (4, .int v4), (5, .int v5), (6, .int v6), (7, .int v7)] → mX16_thousandths_b181 k9 h a0 v1 v2 v3 v4 v5 v6 v7 = some res → W p l e ({ frames := 2, cells := 0, slots := 0, locals := 50 }) s m args below meth c H locs 0 0 Q (F0 m 181 ls []) := by
    intro k9 hk9 h H locs ls a0 v1 v2 v3 v4 v5 v6 v7 hm hs hl hh
    unfold mX16_thousandths_b181 at hh
    refine lv_iinc (v := (v7 + 1)) (lv' := [(7, .int (v7 + 1)), (0, va_rf (some a0)), (1, va_rf v1), (2, .int v2), (3, .int v3), (4, .int v4), (5, .int v5), (6, .int v6)]) C.1 C.2.1 dX16_thousandths_181 hl (k := 7) rfl rfl (by decide) rfl (fun ls hl => ?_)
    refine lv_goto (tgt := 9) C.1 C.2.1 dX16_thousandths_184 (by decide) ?_
    exact hk9 _ _ _ _ _ _ _ _ _ _ _ _  hm hs (lv_sub hl [1, 2, 3, 4, 5, 6, 7, 0] rfl) hh
  have B178 : ∀ (k9 : MHp → Nat → Option Nat → Int32 → Int32 → Int32 → Int32 → Int32 → Int32 → Option (Int32 × MHp)), (∀ (h : MHp) (H : Heap) (locs : List Loc) (ls : Array Slot) (a0 : Nat) (v1 : Option Nat) (v2 : Int32) (v3 : Int32) (v4 : Int32) (v5 : Int32) (v6 : Int32) (v7 : Int32) , mHp (gD G) (gC G) (gB G) h H → va_S (fun q => gB G ≤ q) s.heap H locs → lv_has ls 10 [(0, va_rf (some a0)), (1, va_rf v1), (2, .int v2), (3, .int v3), (4, .int v4), (5, .int v5), (6, .int v6), (7, .int v7)] → k9 h a0 v1 v2 v3 v4 v5 v6 v7 = some res → W p l e ({ frames := 2, cells := 0, slots := 0, locals := 50 }) s m args below meth c H locs 0 0 Q (F0 m 9 ls [])) → ∀ (h : MHp) (H : Heap) (locs : List Loc) (ls : Array Slot) (a0 : Nat) (v1 : Option Nat) (v2 : Int32) (v3 : Int32) (v4 : Int32) (v5 : Int32) (v7 : Int32) (t0 : Int32) (t1 : Int32) , mHp (gD G) (gC G) (gB G) h H → va_S (fun q => gB G ≤ q) s.heap H locs → lv_has ls 10 [(0, va_rf (some a0)), (1, va_rf v1), (2, .int v2), (3, .int v3), (4, .int v4), (5, .int v5), (7, .int v7)] → mX16_thousandths_b178 k9 h a0 v1 v2 v3 v4 v5 v7 t0 t1 = some res → W p l e ({ frames := 2, cells := 0, slots := 0, locals := 50 }) s m args below meth c H locs 0 0 Q (F0 m 178 ls [.int t1, .int t0]) := by
    intro k9 hk9 h H locs ls a0 v1 v2 v3 v4 v5 v7 t0 t1 hm hs hl hh
    unfold mX16_thousandths_b178 at hh
    refine lv_iadd C.1 C.2.1 dX16_thousandths_178 ?_
    refine lv_istore (i := 6) (lv' := [(6, .int (t0 + t1)), (0, va_rf (some a0)), (1, va_rf v1), (2, .int v2), (3, .int v3), (4, .int v4), (5, .int v5), (7, .int v7)]) C.1 C.2.1 dX16_thousandths_179 hl (by decide) rfl (fun ls hl => ?_)
    exact B181 _ hk9 _ _ _ _ _ _ _ _ _ _ _ _  hm hs (lv_sub hl [1, 2, 3, 4, 5, 6, 0, 7] rfl) hh
  have B173 : ∀ (k9 : MHp → Nat → Option Nat → Int32 → Int32 → Int32 → Int32 → Int32 → Int32 → Option (Int32 × MHp)), (∀ (h : MHp) (H : Heap) (locs : List Loc) (ls : Array Slot) (a0 : Nat) (v1 : Option Nat) (v2 : Int32) (v3 : Int32) (v4 : Int32) (v5 : Int32) (v6 : Int32) (v7 : Int32) , mHp (gD G) (gC G) (gB G) h H → va_S (fun q => gB G ≤ q) s.heap H locs → lv_has ls 10 [(0, va_rf (some a0)), (1, va_rf v1), (2, .int v2), (3, .int v3), (4, .int v4), (5, .int v5), (6, .int v6), (7, .int v7)] → k9 h a0 v1 v2 v3 v4 v5 v6 v7 = some res → W p l e ({ frames := 2, cells := 0, slots := 0, locals := 50 }) s m args below meth c H locs 0 0 Q (F0 m 9 ls [])) → ∀ (h : MHp) (H : Heap) (locs : List Loc) (ls : Array Slot) (a0 : Nat) (v1 : Option Nat) (v2 : Int32) (v3 : Int32) (v4 : Int32) (v5 : Int32) (v7 : Int32) (t0 : Int32) , mHp (gD G) (gC G) (gB G) h H → va_S (fun q => gB G ≤ q) s.heap H locs → lv_has ls 10 [(0, va_rf (some a0)), (1, va_rf v1), (2, .int v2), (3, .int v3), (4, .int v4), (5, .int v5), (7, .int v7)] → mX16_thousandths_b173 k9 h a0 v1 v2 v3 v4 v5 v7 t0 = some res → W p l e ({ frames := 2, cells := 0, slots := 0, locals := 50 }) s m args below meth c H locs 0 0 Q (F0 m 173 ls [.int t0]) := by
    intro k9 hk9 h H locs ls a0 v1 v2 v3 v4 v5 v7 t0 hm hs hl hh
    unfold mX16_thousandths_b173 at hh
    refine lv_iconst (v := 1) C.1 C.2.1 dX16_thousandths_173 (by decide) ?_
    refine lv_goto (tgt := 178) C.1 C.2.1 dX16_thousandths_174 (by decide) ?_
    exact B178 _ hk9 _ _ _ _ _ _ _ _ _ _ _ _ _  hm hs (lv_sub hl [0, 1, 2, 3, 4, 5, 6] rfl) hh
  have B137 : ∀ (k9 : MHp → Nat → Option Nat → Int32 → Int32 → Int32 → Int32 → Int32 → Int32 → Option (Int32 × MHp)), (∀ (h : MHp) (H : Heap) (locs : List Loc) (ls : Array Slot) (a0 : Nat) (v1 : Option Nat) (v2 : Int32) (v3 : Int32) (v4 : Int32) (v5 : Int32) (v6 : Int32) (v7 : Int32) , mHp (gD G) (gC G) (gB G) h H → va_S (fun q => gB G ≤ q) s.heap H locs → lv_has ls 10 [(0, va_rf (some a0)), (1, va_rf v1), (2, .int v2), (3, .int v3), (4, .int v4), (5, .int v5), (6, .int v6), (7, .int v7)] → k9 h a0 v1 v2 v3 v4 v5 v6 v7 = some res → W p l e ({ frames := 2, cells := 0, slots := 0, locals := 50 }) s m args below meth c H locs 0 0 Q (F0 m 9 ls [])) → ∀ (h : MHp) (H : Heap) (locs : List Loc) (ls : Array Slot) (a0 : Nat) (v1 : Option Nat) (v2 : Int32) (v3 : Int32) (v4 : Int32) (v5 : Int32) (v6 : Int32) (v7 : Int32) (t0 : Int32) , mHp (gD G) (gC G) (gB G) h H → va_S (fun q => gB G ≤ q) s.heap H locs → lv_has ls 10 [(0, va_rf (some a0)), (1, va_rf v1), (2, .int v2), (3, .int v3), (4, .int v4), (5, .int v5), (6, .int v6), (7, .int v7)] → mX16_thousandths_b137 k9 h a0 v1 v2 v3 v4 v5 v6 v7 t0 = some res → W p l e ({ frames := 2, cells := 0, slots := 0, locals := 50 }) s m args below meth c H locs 0 0 Q (F0 m 137 ls [.int t0]) := by
    intro k9 hk9 h H locs ls a0 v1 v2 v3 v4 v5 v6 v7 t0 hm hs hl hh
    unfold mX16_thousandths_b137 at hh
    refine lv_istore (i := 9) (lv' := [(9, .int t0), (0, va_rf (some a0)), (1, va_rf v1), (2, .int v2), (3, .int v3), (4, .int v4), (5, .int v5), (6, .int v6), (7, .int v7)]) C.1 C.2.1 dX16_thousandths_137 hl (by decide) rfl (fun ls hl => ?_)
    refine lv_iload C.1 C.2.1 dX16_thousandths_139 (lv_at hl 0 rfl) ?_
    refine lv_if_ne (tgt := 147) C.1 C.2.1 dX16_thousandths_141 (by decide) (fun c8 => ?_) (fun c8 => ?_)
    · rw [if_neg c8] at hh
      refine lv_iinc (v := (v5 + 1)) (lv' := [(5, .int (v5 + 1)), (9, .int t0), (0, va_rf (some a0)), (1, va_rf v1), (2, .int v2), (3, .int v3), (4, .int v4), (6, .int v6), (7, .int v7)]) C.1 C.2.1 dX16_thousandths_147 hl (k := 6) rfl rfl (by decide) rfl (fun ls hl => ?_)
      refine lv_iload C.1 C.2.1 dX16_thousandths_150 (lv_at hl 7 rfl) ?_
      refine r_aload_n C.1 C.2.1 dX16_thousandths_152 rfl (lv_at hl 3 rfl) ?_
      refine r_getR C hm flX16_284 dX16_thousandths_153 hh (fun x1 _ hh => ?_)
      refine r_ifnull (tgt := 173) C.1 C.2.1 dX16_thousandths_156 (by decide) (fun c7 => ?_) (fun c7 => ?_)
      · rw [if_pos c7] at hh
        exact B173 _ hk9 _ _ _ _ _ _ _ _ _ _ _ _  hm hs (lv_sub hl [2, 3, 4, 5, 6, 0, 8] rfl) hh
      · rw [if_neg c7] at hh
        refine r_aload_n C.1 C.2.1 dX16_thousandths_159 rfl (lv_at hl 3 rfl) ?_
        refine r_getR C hm flX16_284 dX16_thousandths_160 hh (fun x2 _ hh => ?_)
        refine r_aload_n C.1 C.2.1 dX16_thousandths_163 rfl (lv_at hl 2 rfl) ?_
        refine r_getR C hm flX16_58 dX16_thousandths_164 hh (fun x3 _ hh => ?_)
        refine r_cV C X hm hs mlX16_385 mvX16_385 hh (vv := fun r => some (.int r)) (hp := fun r => h) (fun b r hg => c_X15_holds l G h b _ r hg) rfl rfl (Nat.le_of_ble_eq_true rfl) (Nat.le_of_ble_eq_true rfl) (Nat.le_of_ble_eq_true rfl) hl.1 dX16_thousandths_167 (fun b5 r4 H locs hgr4 hh hm hs => ?_)
        refine W.eq (g2 := F0 m 170 ls [.int r4, .int v6]) rfl ?_
        refine lv_if_eq (tgt := 177) C.1 C.2.1 dX16_thousandths_170 (by decide) (fun c6 => ?_) (fun c6 => ?_)
        · rw [if_pos c6] at hh
          refine lv_iconst (v := 0) C.1 C.2.1 dX16_thousandths_177 (by decide) ?_
          exact B178 _ hk9 _ _ _ _ _ _ _ _ _ _ _ _ _  hm hs (lv_sub hl [2, 3, 4, 5, 6, 0, 8] rfl) hh
        · rw [if_neg c6] at hh
          exact B173 _ hk9 _ _ _ _ _ _ _ _ _ _ _ _  hm hs (lv_sub hl [2, 3, 4, 5, 6, 0, 8] rfl) hh
    · rw [if_pos c8] at hh
      refine lv_goto (tgt := 181) C.1 C.2.1 dX16_thousandths_144 (by decide) ?_
      exact B181 _ hk9 _ _ _ _ _ _ _ _ _ _ _ _  hm hs (lv_sub hl [1, 2, 3, 4, 5, 6, 7, 8] rfl) hh
  have B122 : ∀ (k9 : MHp → Nat → Option Nat → Int32 → Int32 → Int32 → Int32 → Int32 → Int32 → Option (Int32 × MHp)), (∀ (h : MHp) (H : Heap) (locs : List Loc) (ls : Array Slot) (a0 : Nat) (v1 : Option Nat) (v2 : Int32) (v3 : Int32) (v4 : Int32) (v5 : Int32) (v6 : Int32) (v7 : Int32) , mHp (gD G) (gC G) (gB G) h H → va_S (fun q => gB G ≤ q) s.heap H locs → lv_has ls 10 [(0, va_rf (some a0)), (1, va_rf v1), (2, .int v2), (3, .int v3), (4, .int v4), (5, .int v5), (6, .int v6), (7, .int v7)] → k9 h a0 v1 v2 v3 v4 v5 v6 v7 = some res → W p l e ({ frames := 2, cells := 0, slots := 0, locals := 50 }) s m args below meth c H locs 0 0 Q (F0 m 9 ls [])) → ∀ (h : MHp) (H : Heap) (locs : List Loc) (ls : Array Slot) (a0 : Nat) (v1 : Option Nat) (v2 : Int32) (v3 : Int32) (v4 : Int32) (v5 : Int32) (v6 : Int32) (v7 : Int32) , mHp (gD G) (gC G) (gB G) h H → va_S (fun q => gB G ≤ q) s.heap H locs → lv_has ls 10 [(0, va_rf (some a0)), (1, va_rf v1), (2, .int v2), (3, .int v3), (4, .int v4), (5, .int v5), (6, .int v6), (7, .int v7)] → mX16_thousandths_b122 k9 h a0 v1 v2 v3 v4 v5 v6 v7 = some res → W p l e ({ frames := 2, cells := 0, slots := 0, locals := 50 }) s m args below meth c H locs 0 0 Q (F0 m 122 ls []) := by
    intro k9 hk9 h H locs ls a0 v1 v2 v3 v4 v5 v6 v7 hm hs hl hh
    unfold mX16_thousandths_b122 at hh
    refine lv_iconst (v := 0) C.1 C.2.1 dX16_thousandths_122 (by decide) ?_
    refine lv_goto (tgt := 137) C.1 C.2.1 dX16_thousandths_123 (by decide) ?_
    exact B137 _ hk9 _ _ _ _ _ _ _ _ _ _ _ _ _  hm hs (lv_sub hl [0, 1, 2, 3, 4, 5, 6, 7] rfl) hh
  have B9 : ∀ n : Nat, ∀ (h : MHp) (H : Heap) (locs : List Loc) (ls : Array Slot) (a0 : Nat) (v1 : Option Nat) (v2 : Int32) (v3 : Int32) (v4 : Int32) (v5 : Int32) (v6 : Int32) (v7 : Int32) , mHp (gD G) (gC G) (gB G) h H → va_S (fun q => gB G ≤ q) s.heap H locs → lv_has ls 10 [(0, va_rf (some a0)), (1, va_rf v1), (2, .int v2), (3, .int v3), (4, .int v4), (5, .int v5), (6, .int v6), (7, .int v7)] → mX16_thousandths_l9 n h a0 v1 v2 v3 v4 v5 v6 v7 = some res → W p l e ({ frames := 2, cells := 0, slots := 0, locals := 50 }) s m args below meth c H locs 0 0 Q (F0 m 9 ls []) := by
    intro n
    induction n with
    | zero => intro h H locs ls a0 v1 v2 v3 v4 v5 v6 v7 hm hs hl hh; cases hh
    | succ n ih =>
      intro h H locs ls a0 v1 v2 v3 v4 v5 v6 v7 hm hs hl hh
      unfold mX16_thousandths_l9 at hh
      refine lv_iload C.1 C.2.1 dX16_thousandths_9 (lv_at hl 7 rfl) ?_
      refine r_aload_n C.1 C.2.1 dX16_thousandths_11 rfl (lv_at hl 0 rfl) ?_
      refine r_getI C hm flX16_308 dX16_thousandths_12 hh (fun x9 _ hh => ?_)
      refine lv_icmp_ge (tgt := 187) C.1 C.2.1 dX16_thousandths_15 (by decide) (fun c36 => ?_) (fun c36 => ?_)
      · rw [if_pos c36] at hh
        refine r_aload_n C.1 C.2.1 dX16_thousandths_187 rfl (lv_at hl 0 rfl) ?_
        refine lv_iload C.1 C.2.1 dX16_thousandths_188 (lv_at hl 5 rfl) ?_
        refine r_putI C hm hs flX16_420 (Or.inl fm_17_41) dX16_thousandths_190 hh (fun h10 H locs _ hh hm hs => ?_)
        refine lv_iload C.1 C.2.1 dX16_thousandths_193 (lv_at hl 5 rfl) ?_
        refine lv_if_ne (tgt := 202) C.1 C.2.1 dX16_thousandths_195 (by decide) (fun c11 => ?_) (fun c11 => ?_)
        · rw [if_neg c11] at hh
          refine lv_sipush (v := 1000) C.1 C.2.1 dX16_thousandths_202 (by decide) ?_
          refine lv_iload C.1 C.2.1 dX16_thousandths_205 (lv_at hl 6 rfl) ?_
          refine lv_imul C.1 C.2.1 dX16_thousandths_207 ?_
          refine lv_iload C.1 C.2.1 dX16_thousandths_208 (lv_at hl 5 rfl) ?_
          refine r_idiv C dX16_thousandths_210 hh (fun _ hh => ?_)
          exact r_iretW hQ C hr hm hs hh dX16_thousandths_211
        · rw [if_pos c11] at hh
          refine lv_iconst (v := 0) C.1 C.2.1 dX16_thousandths_198 (by decide) ?_
          refine lv_goto (tgt := 211) C.1 C.2.1 dX16_thousandths_199 (by decide) ?_
          exact r_iretW hQ C hr hm hs hh dX16_thousandths_211
      · rw [if_neg c36] at hh
        refine r_aload_n C.1 C.2.1 dX16_thousandths_18 rfl (lv_at hl 0 rfl) ?_
        refine lv_iload C.1 C.2.1 dX16_thousandths_19 (lv_at hl 7 rfl) ?_
        refine r_aload_n C.1 C.2.1 dX16_thousandths_21 rfl (lv_at hl 0 rfl) ?_
        refine r_getI C hm flX16_314 dX16_thousandths_22 hh (fun x12 _ hh => ?_)
        refine r_cV C X hm hs mlX16_353 mvX16_353 hh (vv := fun r => some (.int r)) (hp := fun r => h) (fun b r hg => c_X16_isThere l G h b _ _ r hg) rfl rfl (Nat.le_of_ble_eq_true rfl) (Nat.le_of_ble_eq_true rfl) (Nat.le_of_ble_eq_true rfl) hl.1 dX16_thousandths_25 (fun b14 r13 H locs hgr13 hh hm hs => ?_)
        refine W.eq (g2 := F0 m 28 ls [.int r13]) rfl ?_
        refine lv_if_ne (tgt := 34) C.1 C.2.1 dX16_thousandths_28 (by decide) (fun c35 => ?_) (fun c35 => ?_)
        · rw [if_neg c35] at hh
          refine r_aload_n C.1 C.2.1 dX16_thousandths_34 rfl (lv_at hl 0 rfl) ?_
          refine lv_iload C.1 C.2.1 dX16_thousandths_35 (lv_at hl 7 rfl) ?_
          refine r_aload_n C.1 C.2.1 dX16_thousandths_37 rfl (lv_at hl 0 rfl) ?_
          refine r_getI C hm flX16_314 dX16_thousandths_38 hh (fun x15 _ hh => ?_)
          refine lv_iconst (v := 0) C.1 C.2.1 dX16_thousandths_41 (by decide) ?_
          refine r_aload_n C.1 C.2.1 dX16_thousandths_42 rfl (lv_at hl 0 rfl) ?_
          refine r_getR C hm flX16_58 dX16_thousandths_43 hh (fun x16 _ hh => ?_)
          refine r_cV C X hm hs mlX16_349 mvX16_349 hh (vv := fun r => none) (hp := fun r => r) (fun b r hg => c_X16_loads l G h b _ _ _ _ r hg) rfl rfl (Nat.le_of_ble_eq_true rfl) (Nat.le_of_ble_eq_true rfl) (Nat.le_of_ble_eq_true rfl) hl.1 dX16_thousandths_46 (fun b18 r17 H locs hgr17 hh hm hs => ?_)
          refine W.eq (g2 := F0 m 49 ls []) rfl ?_
          refine r_aload_n C.1 C.2.1 dX16_thousandths_49 rfl (lv_at hl 0 rfl) ?_
          refine r_getR C hm flX16_58 dX16_thousandths_50 hh (fun x19 _ hh => ?_)
          refine lv_iload_n C.1 C.2.1 dX16_thousandths_53 rfl (lv_at hl 2 rfl) ?_
          refine r_ald C hm dX16_thousandths_54 hh (fun x20 _ hh => ?_)
          refine lv_istore (i := 8) (lv' := [(8, .int x20), (0, va_rf (some a0)), (1, va_rf v1), (2, .int v2), (3, .int v3), (4, .int v4), (5, .int v5), (6, .int v6), (7, .int v7)]) C.1 C.2.1 dX16_thousandths_55 hl (by decide) rfl (fun ls hl => ?_)
          refine lv_iload C.1 C.2.1 dX16_thousandths_57 (lv_at hl 0 rfl) ?_
          refine lv_iconst (v := (-1)) C.1 C.2.1 dX16_thousandths_59 (by decide) ?_
          refine lv_icmp_eq (tgt := 181) C.1 C.2.1 dX16_thousandths_60 (by decide) (fun c34 => ?_) (fun c34 => ?_)
          · rw [if_pos c34] at hh
            exact B181 _ ih _ _ _ _ _ _ _ _ _ _ _ _  hm hs (lv_sub hl [1, 2, 3, 4, 5, 6, 7, 8] rfl) hh
          · rw [if_neg c34] at hh
            refine r_aload_n C.1 C.2.1 dX16_thousandths_63 rfl (lv_at hl 1 rfl) ?_
            refine r_getR C hm flX16_274 dX16_thousandths_64 hh (fun x21 _ hh => ?_)
            refine r_aload_n C.1 C.2.1 dX16_thousandths_67 rfl (lv_at hl 1 rfl) ?_
            refine r_getR C hm flX16_58 dX16_thousandths_68 hh (fun x22 _ hh => ?_)
            refine r_cV C X hm hs mlX16_356 mvX16_356 hh (vv := fun r => some (.int r)) (hp := fun r => r17) (fun b r hg => c_X12_broken l G r17 b _ r hg) rfl rfl (Nat.le_of_ble_eq_true rfl) (Nat.le_of_ble_eq_true rfl) (Nat.le_of_ble_eq_true rfl) hl.1 dX16_thousandths_71 (fun b24 r23 H locs hgr23 hh hm hs => ?_)
            refine W.eq (g2 := F0 m 74 ls [.int r23]) rfl ?_
            refine lv_iconst (v := (-1)) C.1 C.2.1 dX16_thousandths_74 (by decide) ?_
            refine lv_icmp_eq (tgt := 81) C.1 C.2.1 dX16_thousandths_75 (by decide) (fun c33 => ?_) (fun c33 => ?_)
            · rw [if_pos c33] at hh
              refine lv_iload C.1 C.2.1 dX16_thousandths_81 (lv_at hl 5 rfl) ?_
              refine lv_if_eq (tgt := 126) C.1 C.2.1 dX16_thousandths_83 (by decide) (fun c32 => ?_) (fun c32 => ?_)
              · rw [if_pos c32] at hh
                refine lv_iload C.1 C.2.1 dX16_thousandths_126 (lv_at hl 0 rfl) ?_
                refine lv_iload_n C.1 C.2.1 dX16_thousandths_128 rfl (lv_at hl 4 rfl) ?_
                refine lv_icmp_ne (tgt := 136) C.1 C.2.1 dX16_thousandths_129 (by decide) (fun c25 => ?_) (fun c25 => ?_)
                · rw [if_neg c25] at hh
                  refine lv_iconst (v := 0) C.1 C.2.1 dX16_thousandths_136 (by decide) ?_
                  exact B137 _ ih _ _ _ _ _ _ _ _ _ _ _ _ _  hm hs (lv_sub hl [1, 2, 3, 4, 5, 6, 7, 8] rfl) hh
                · rw [if_pos c25] at hh
                  refine lv_iconst (v := 1) C.1 C.2.1 dX16_thousandths_132 (by decide) ?_
                  refine lv_goto (tgt := 137) C.1 C.2.1 dX16_thousandths_133 (by decide) ?_
                  exact B137 _ ih _ _ _ _ _ _ _ _ _ _ _ _ _  hm hs (lv_sub hl [1, 2, 3, 4, 5, 6, 7, 8] rfl) hh
              · rw [if_neg c32] at hh
                refine lv_iload C.1 C.2.1 dX16_thousandths_86 (lv_at hl 0 rfl) ?_
                refine lv_iload_n C.1 C.2.1 dX16_thousandths_88 rfl (lv_at hl 4 rfl) ?_
                refine lv_icmp_eq (tgt := 122) C.1 C.2.1 dX16_thousandths_89 (by decide) (fun c31 => ?_) (fun c31 => ?_)
                · rw [if_pos c31] at hh
                  exact B122 _ ih _ _ _ _ _ _ _ _ _ _ _ _  hm hs (lv_sub hl [1, 2, 3, 4, 5, 6, 7, 8] rfl) hh
                · rw [if_neg c31] at hh
                  refine r_aload_n C.1 C.2.1 dX16_thousandths_92 rfl (lv_at hl 1 rfl) ?_
                  refine r_getR C hm flX16_79 dX16_thousandths_93 hh (fun x26 _ hh => ?_)
                  refine lv_bipush (v := 10) C.1 C.2.1 dX16_thousandths_96 (by decide) ?_
                  refine lv_iload_n C.1 C.2.1 dX16_thousandths_98 rfl (lv_at hl 3 rfl) ?_
                  refine lv_imul C.1 C.2.1 dX16_thousandths_99 ?_
                  refine lv_iload C.1 C.2.1 dX16_thousandths_100 (lv_at hl 0 rfl) ?_
                  refine lv_iadd C.1 C.2.1 dX16_thousandths_102 ?_
                  refine r_ald C hm dX16_thousandths_103 hh (fun x27 _ hh => ?_)
                  refine r_aload_n C.1 C.2.1 dX16_thousandths_104 rfl (lv_at hl 1 rfl) ?_
                  refine r_getR C hm flX16_79 dX16_thousandths_105 hh (fun x28 _ hh => ?_)
                  refine lv_bipush (v := 10) C.1 C.2.1 dX16_thousandths_108 (by decide) ?_
                  refine lv_iload_n C.1 C.2.1 dX16_thousandths_110 rfl (lv_at hl 3 rfl) ?_
                  refine lv_imul C.1 C.2.1 dX16_thousandths_111 ?_
                  refine lv_iload_n C.1 C.2.1 dX16_thousandths_112 rfl (lv_at hl 4 rfl) ?_
                  refine lv_iadd C.1 C.2.1 dX16_thousandths_113 ?_
                  refine r_ald C hm dX16_thousandths_114 hh (fun x29 _ hh => ?_)
                  refine lv_icmp_ne (tgt := 122) C.1 C.2.1 dX16_thousandths_115 (by decide) (fun c30 => ?_) (fun c30 => ?_)
                  · rw [if_neg c30] at hh
                    exact B122 _ ih _ _ _ _ _ _ _ _ _ _ _ _  hm hs (lv_sub hl [1, 2, 3, 4, 5, 6, 7, 8] rfl) hh
                  · rw [if_pos c30] at hh
                    refine lv_iconst (v := 1) C.1 C.2.1 dX16_thousandths_118 (by decide) ?_
                    refine lv_goto (tgt := 137) C.1 C.2.1 dX16_thousandths_119 (by decide) ?_
                    exact B137 _ ih _ _ _ _ _ _ _ _ _ _ _ _ _  hm hs (lv_sub hl [1, 2, 3, 4, 5, 6, 7, 8] rfl) hh
            · rw [if_neg c33] at hh
              refine lv_goto (tgt := 181) C.1 C.2.1 dX16_thousandths_78 (by decide) ?_
              exact B181 _ ih _ _ _ _ _ _ _ _ _ _ _ _  hm hs (lv_sub hl [1, 2, 3, 4, 5, 6, 7, 8] rfl) hh
        · rw [if_pos c35] at hh
          refine lv_goto (tgt := 181) C.1 C.2.1 dX16_thousandths_31 (by decide) ?_
          exact B181 _ ih _ _ _ _ _ _ _ _ _ _ _ _  hm hs (lv_sub hl [0, 1, 2, 3, 4, 5, 6, 7] rfl) hh
  unfold mX16_thousandths at hh
  refine lv_iconst (v := 0) C.1 C.2.1 dX16_thousandths_0 (by decide) ?_
  refine lv_istore (i := 5) (lv' := [(5, .int 0), (0, va_rf (some a0)), (1, va_rf a1), (2, .int a2), (3, .int a3), (4, .int a4)]) C.1 C.2.1 dX16_thousandths_1 hl (by decide) rfl (fun ls hl => ?_)
  refine lv_iconst (v := 0) C.1 C.2.1 dX16_thousandths_3 (by decide) ?_
  refine lv_istore (i := 6) (lv' := [(6, .int 0), (5, .int 0), (0, va_rf (some a0)), (1, va_rf a1), (2, .int a2), (3, .int a3), (4, .int a4)]) C.1 C.2.1 dX16_thousandths_4 hl (by decide) rfl (fun ls hl => ?_)
  refine lv_iconst (v := 0) C.1 C.2.1 dX16_thousandths_6 (by decide) ?_
  refine lv_istore (i := 7) (lv' := [(7, .int 0), (6, .int 0), (5, .int 0), (0, va_rf (some a0)), (1, va_rf a1), (2, .int a2), (3, .int a3), (4, .int a4)]) C.1 C.2.1 dX16_thousandths_7 hl (by decide) rfl (fun ls hl => ?_)
  exact B9 FUEL _ _ _ _ _ _ _ _ _ _ _ _  hm hs (lv_sub hl [3, 4, 5, 6, 7, 2, 1, 0] rfl) hh
def mX16_small_b48 (h : MHp) (a0 : Nat) : Option (Int32 × MHp) := (rcv 17 h (some a0)).bind fun b2 => (mX16_refused h b2 1).bind fun r1 => some (r1.1, r1.2)
def mX16_small_b171 (h : MHp) (t0 : Option Nat) (t1 : Int32) : Option (Int32 × MHp) := (rcv 17 h t0).bind fun b4 => (mX16_done h b4 t1).bind fun r3 => some (r3.1, r3.2)
def mX16_small (h : MHp) (a0 : Nat) (a1 : Int32) (a2 : Int32) (a3 : Int32) (a4 : Int32) : Option (Int32 × MHp) := (pI 17 0 h (some a0) 0).bind fun h5 => (rcv 17 h5 (some a0)).bind fun b7 => (mX16_isTable h5 b7 a1).bind fun r6 => (if r6 = 0 then mX16_small_b48 h5 a0 else (rcv 17 h5 (some a0)).bind fun b9 => (mX16_isField h5 b9 a2).bind fun r8 => (if r8 = 0 then mX16_small_b48 h5 a0 else (gR 17 4 h5 (some a0)).bind fun x10 => (gR 13 3 h5 x10).bind fun x11 => (gAI 20 h5 x11 a2).bind fun x12 => (mX16_in h5 a3 0 x12).bind fun r13 => (if r13 = 0 then mX16_small_b48 h5 a0 else (mX16_in h5 a4 0 3).bind fun r14 => (if r14 = 0 then mX16_small_b48 h5 a0 else (gR 17 6 h5 (some a0)).bind fun x15 => (gAR 26 h5 x15 a1).bind fun x16 => (gI 15 1 h5 x16).bind fun x17 => (if x17 = (-1) then (rcv 17 h5 (some a0)).bind fun b19 => (mX16_thousandths h5 b19 x16 a2 a3 1).bind fun r18 => (rcv 17 r18.2 (some a0)).bind fun b21 => (mX16_thousandths r18.2 b21 x16 a2 a3 0).bind fun r20 => (gI 17 41 r20.2 (some a0)).bind fun x22 => (gI 17 41 r20.2 (some a0)).bind fun x23 => (gI 17 39 r20.2 (some a0)).bind fun x24 => (nz (x23 + x24)).bind fun _ => (if a4 = 0 then mX16_small_b171 r20.2 (some a0) (((r20.1 * ((1000 * x22) / (x23 + x24))) + (r18.1 * (1000 - ((1000 * x22) / (x23 + x24))))) / 1000) else (if a4 = 1 then mX16_small_b171 r20.2 (some a0) r20.1 else (if a4 = 2 then mX16_small_b171 r20.2 (some a0) r18.1 else mX16_small_b171 r20.2 (some a0) ((1000 * x22) / (x23 + x24))))) else (rcv 17 h5 (some a0)).bind fun b29 => (mX16_refused h5 b29 5).bind fun r28 => some (r28.1, r28.2))))))
set_option maxRecDepth 100000 in
set_option maxHeartbeats 4000000 in
theorem c_X16_small (l : Launch) (G : Env0) (h : MHp) (a0 : Nat) (a1 : Int32) (a2 : Int32) (a3 : Int32) (a4 : Int32) (res : Int32 × MHp) (hh : mX16_small h a0 a1 a2 a3 a4 = some res) : MG l yX16_small cX16_small 9 (some .int) 3 79 0 0 G h [.ref a0, .int a1, .int a2, .int a3, .int a4] (some (.int res.1)) (res.2) := by
  refine MG_of (own := RX16) (plainFor_of_name (by decide)) rfl (Nat.le_of_ble_eq_true rfl) ?_
  intro p e s m args below meth c Q ls hQ C X hin hm hs hl hr
  have hl : lv_has ls 9 [(0, va_rf (some a0)), (1, .int a1), (2, .int a2), (3, .int a3), (4, .int a4)] := hl
  have B48 : ∀ (h : MHp) (H : Heap) (locs : List Loc) (ls : Array Slot) (a0 : Nat) , mHp (gD G) (gC G) (gB G) h H → va_S (fun q => gB G ≤ q) s.heap H locs → lv_has ls 9 [(0, va_rf (some a0))] → mX16_small_b48 h a0 = some res → W p l e ({ frames := 3, cells := 0, slots := 0, locals := 79 }) s m args below meth c H locs 0 0 Q (F0 m 48 ls []) := by
    intro h H locs ls a0 hm hs hl hh
    unfold mX16_small_b48 at hh
    refine r_aload_n C.1 C.2.1 dX16_small_48 rfl (lv_at hl 0 rfl) ?_
    refine lv_iconst (v := 1) C.1 C.2.1 dX16_small_49 (by decide) ?_
    refine r_cV C X hm hs mlX16_293 mvX16_293 hh (vv := fun r => some (.int r.1)) (hp := fun r => r.2) (fun b r hg => c_X16_refused l G h b _ r hg) rfl rfl (Nat.le_of_ble_eq_true rfl) (Nat.le_of_ble_eq_true rfl) (Nat.le_of_ble_eq_true rfl) hl.1 dX16_small_50 (fun b2 r1 H locs hgr1 hh hm hs => ?_)
    refine W.eq (g2 := F0 m 53 ls [.int r1.1]) rfl ?_
    exact r_iretW hQ C hr hm hs hh dX16_small_53
  have B171 : ∀ (h : MHp) (H : Heap) (locs : List Loc) (ls : Array Slot) (t0 : Option Nat) (t1 : Int32) , mHp (gD G) (gC G) (gB G) h H → va_S (fun q => gB G ≤ q) s.heap H locs → lv_has ls 9 [] → mX16_small_b171 h t0 t1 = some res → W p l e ({ frames := 3, cells := 0, slots := 0, locals := 79 }) s m args below meth c H locs 0 0 Q (F0 m 171 ls [.int t1, va_rf t0]) := by
    intro h H locs ls t0 t1 hm hs hl hh
    unfold mX16_small_b171 at hh
    refine r_cV C X hm hs mlX16_323 mvX16_323 hh (vv := fun r => some (.int r.1)) (hp := fun r => r.2) (fun b r hg => c_X16_done l G h b _ r hg) rfl rfl (Nat.le_of_ble_eq_true rfl) (Nat.le_of_ble_eq_true rfl) (Nat.le_of_ble_eq_true rfl) hl.1 dX16_small_171 (fun b4 r3 H locs hgr3 hh hm hs => ?_)
    refine W.eq (g2 := F0 m 174 ls [.int r3.1]) rfl ?_
    exact r_iretW hQ C hr hm hs hh dX16_small_174
  unfold mX16_small at hh
  refine r_aload_n C.1 C.2.1 dX16_small_0 rfl (lv_at hl 0 rfl) ?_
  refine lv_iconst (v := 0) C.1 C.2.1 dX16_small_1 (by decide) ?_
  refine r_putI C hm hs flX16_109 (Or.inl fm_17_0) dX16_small_2 hh (fun h5 H locs _ hh hm hs => ?_)
  refine r_aload_n C.1 C.2.1 dX16_small_5 rfl (lv_at hl 0 rfl) ?_
  refine lv_iload_n C.1 C.2.1 dX16_small_6 rfl (lv_at hl 1 rfl) ?_
  refine r_cV C X hm hs mlX16_379 mvX16_379 hh (vv := fun r => some (.int r)) (hp := fun r => h5) (fun b r hg => c_X16_isTable l G h5 b _ r hg) rfl rfl (Nat.le_of_ble_eq_true rfl) (Nat.le_of_ble_eq_true rfl) (Nat.le_of_ble_eq_true rfl) hl.1 dX16_small_7 (fun b7 r6 H locs hgr6 hh hm hs => ?_)
  refine W.eq (g2 := F0 m 10 ls [.int r6]) rfl ?_
  refine lv_if_eq (tgt := 48) C.1 C.2.1 dX16_small_10 (by decide) (fun c34 => ?_) (fun c34 => ?_)
  · rw [if_pos c34] at hh
    exact B48 _ _ _ _ _  hm hs (lv_sub hl [0] rfl) hh
  · rw [if_neg c34] at hh
    refine r_aload_n C.1 C.2.1 dX16_small_13 rfl (lv_at hl 0 rfl) ?_
    refine lv_iload_n C.1 C.2.1 dX16_small_14 rfl (lv_at hl 2 rfl) ?_
    refine r_cV C X hm hs mlX16_330 mvX16_330 hh (vv := fun r => some (.int r)) (hp := fun r => h5) (fun b r hg => c_X16_isField l G h5 b _ r hg) rfl rfl (Nat.le_of_ble_eq_true rfl) (Nat.le_of_ble_eq_true rfl) (Nat.le_of_ble_eq_true rfl) hl.1 dX16_small_15 (fun b9 r8 H locs hgr8 hh hm hs => ?_)
    refine W.eq (g2 := F0 m 18 ls [.int r8]) rfl ?_
    refine lv_if_eq (tgt := 48) C.1 C.2.1 dX16_small_18 (by decide) (fun c33 => ?_) (fun c33 => ?_)
    · rw [if_pos c33] at hh
      exact B48 _ _ _ _ _  hm hs (lv_sub hl [0] rfl) hh
    · rw [if_neg c33] at hh
      refine lv_iload_n C.1 C.2.1 dX16_small_21 rfl (lv_at hl 3 rfl) ?_
      refine lv_iconst (v := 0) C.1 C.2.1 dX16_small_22 (by decide) ?_
      refine r_aload_n C.1 C.2.1 dX16_small_23 rfl (lv_at hl 0 rfl) ?_
      refine r_getR C hm flX16_274 dX16_small_24 hh (fun x10 _ hh => ?_)
      refine r_getR C hm flX16_235 dX16_small_27 hh (fun x11 _ hh => ?_)
      refine lv_iload_n C.1 C.2.1 dX16_small_30 rfl (lv_at hl 2 rfl) ?_
      refine r_ald C hm dX16_small_31 hh (fun x12 _ hh => ?_)
      refine r_cS C X hm hs mlX16_231 msX16_231 hh (vv := fun r => some (.int r)) (hp := fun r => h5) (fun r hg => c_X16_in l G h5 _ _ _ r hg) rfl rfl (Nat.le_of_ble_eq_true rfl) (Nat.le_of_ble_eq_true rfl) (Nat.le_of_ble_eq_true rfl) hl.1 dX16_small_32 (fun r13 H locs hgr13 hh hm hs => ?_)
      refine W.eq (g2 := F0 m 35 ls [.int r13]) rfl ?_
      refine lv_if_eq (tgt := 48) C.1 C.2.1 dX16_small_35 (by decide) (fun c32 => ?_) (fun c32 => ?_)
      · rw [if_pos c32] at hh
        exact B48 _ _ _ _ _  hm hs (lv_sub hl [0] rfl) hh
      · rw [if_neg c32] at hh
        refine lv_iload C.1 C.2.1 dX16_small_38 (lv_at hl 4 rfl) ?_
        refine lv_iconst (v := 0) C.1 C.2.1 dX16_small_40 (by decide) ?_
        refine lv_iconst (v := 3) C.1 C.2.1 dX16_small_41 (by decide) ?_
        refine r_cS C X hm hs mlX16_231 msX16_231 hh (vv := fun r => some (.int r)) (hp := fun r => h5) (fun r hg => c_X16_in l G h5 _ _ _ r hg) rfl rfl (Nat.le_of_ble_eq_true rfl) (Nat.le_of_ble_eq_true rfl) (Nat.le_of_ble_eq_true rfl) hl.1 dX16_small_42 (fun r14 H locs hgr14 hh hm hs => ?_)
        refine W.eq (g2 := F0 m 45 ls [.int r14]) rfl ?_
        refine lv_if_ne (tgt := 54) C.1 C.2.1 dX16_small_45 (by decide) (fun c31 => ?_) (fun c31 => ?_)
        · rw [if_neg c31] at hh
          refine r_aload_n C.1 C.2.1 dX16_small_54 rfl (lv_at hl 0 rfl) ?_
          refine r_getR C hm flX16_15 dX16_small_55 hh (fun x15 _ hh => ?_)
          refine lv_iload_n C.1 C.2.1 dX16_small_58 rfl (lv_at hl 1 rfl) ?_
          refine r_ald_q C hm dX16_small_59 (kd := 26) (by decide) (t0 := 6) rfl hh (fun x16 _ hh => ?_)
          refine r_astore (i := 5) (lv' := [(5, va_rf x16), (0, va_rf (some a0)), (1, .int a1), (2, .int a2), (3, .int a3), (4, .int a4)]) C.1 C.2.1 dX16_small_60 hl (by decide) rfl (fun ls hl => ?_)
          refine r_aload C.1 C.2.1 dX16_small_62 (lv_at hl 0 rfl) ?_
          refine r_getI C hm flX16_279 dX16_small_64 hh (fun x17 _ hh => ?_)
          refine lv_iconst (v := (-1)) C.1 C.2.1 dX16_small_67 (by decide) ?_
          refine lv_icmp_eq (tgt := 77) C.1 C.2.1 dX16_small_68 (by decide) (fun c30 => ?_) (fun c30 => ?_)
          · rw [if_pos c30] at hh
            refine r_aload_n C.1 C.2.1 dX16_small_77 rfl (lv_at hl 1 rfl) ?_
            refine r_aload C.1 C.2.1 dX16_small_78 (lv_at hl 0 rfl) ?_
            refine lv_iload_n C.1 C.2.1 dX16_small_80 rfl (lv_at hl 3 rfl) ?_
            refine lv_iload_n C.1 C.2.1 dX16_small_81 rfl (lv_at hl 4 rfl) ?_
            refine lv_iconst (v := 1) C.1 C.2.1 dX16_small_82 (by decide) ?_
            refine r_cV C X hm hs mlX16_423 mvX16_423 hh (vv := fun r => some (.int r.1)) (hp := fun r => r.2) (fun b r hg => c_X16_thousandths l G h5 b _ _ _ _ r hg) rfl rfl (Nat.le_of_ble_eq_true rfl) (Nat.le_of_ble_eq_true rfl) (Nat.le_of_ble_eq_true rfl) hl.1 dX16_small_83 (fun b19 r18 H locs hgr18 hh hm hs => ?_)
            refine W.eq (g2 := F0 m 86 ls [.int r18.1]) rfl ?_
            refine lv_istore (i := 6) (lv' := [(6, .int r18.1), (5, va_rf x16), (0, va_rf (some a0)), (1, .int a1), (2, .int a2), (3, .int a3), (4, .int a4)]) C.1 C.2.1 dX16_small_86 hl (by decide) (by simp [va_cat, vc_i, vc_l, vc_r]) (fun ls hl => ?_)
            refine r_aload_n C.1 C.2.1 dX16_small_88 rfl (lv_at hl 2 rfl) ?_
            refine r_aload C.1 C.2.1 dX16_small_89 (lv_at hl 1 rfl) ?_
            refine lv_iload_n C.1 C.2.1 dX16_small_91 rfl (lv_at hl 4 rfl) ?_
            refine lv_iload_n C.1 C.2.1 dX16_small_92 rfl (lv_at hl 5 rfl) ?_
            refine lv_iconst (v := 0) C.1 C.2.1 dX16_small_93 (by decide) ?_
            refine r_cV C X hm hs mlX16_423 mvX16_423 hh (vv := fun r => some (.int r.1)) (hp := fun r => r.2) (fun b r hg => c_X16_thousandths l G r18.2 b _ _ _ _ r hg) rfl rfl (Nat.le_of_ble_eq_true rfl) (Nat.le_of_ble_eq_true rfl) (Nat.le_of_ble_eq_true rfl) hl.1 dX16_small_94 (fun b21 r20 H locs hgr20 hh hm hs => ?_)
            refine W.eq (g2 := F0 m 97 ls [.int r20.1]) rfl ?_
            refine lv_istore (i := 7) (lv' := [(7, .int r20.1), (6, .int r18.1), (5, va_rf x16), (0, va_rf (some a0)), (1, .int a1), (2, .int a2), (3, .int a3), (4, .int a4)]) C.1 C.2.1 dX16_small_97 hl (by decide) rfl (fun ls hl => ?_)
            refine lv_sipush (v := 1000) C.1 C.2.1 dX16_small_99 (by decide) ?_
            refine r_aload_n C.1 C.2.1 dX16_small_102 rfl (lv_at hl 3 rfl) ?_
            refine r_getI C hm flX16_420 dX16_small_103 hh (fun x22 _ hh => ?_)
            refine lv_imul C.1 C.2.1 dX16_small_106 ?_
            refine r_aload_n C.1 C.2.1 dX16_small_107 rfl (lv_at hl 3 rfl) ?_
            refine r_getI C hm flX16_420 dX16_small_108 hh (fun x23 _ hh => ?_)
            refine r_aload_n C.1 C.2.1 dX16_small_111 rfl (lv_at hl 3 rfl) ?_
            refine r_getI C hm flX16_88 dX16_small_112 hh (fun x24 _ hh => ?_)
            refine lv_iadd C.1 C.2.1 dX16_small_115 ?_
            refine r_idiv C dX16_small_116 hh (fun _ hh => ?_)
            refine lv_istore (i := 8) (lv' := [(8, .int ((1000 * x22) / (x23 + x24))), (7, .int r20.1), (6, .int r18.1), (5, va_rf x16), (0, va_rf (some a0)), (1, .int a1), (2, .int a2), (3, .int a3), (4, .int a4)]) C.1 C.2.1 dX16_small_117 hl (by decide) rfl (fun ls hl => ?_)
            refine r_aload_n C.1 C.2.1 dX16_small_119 rfl (lv_at hl 4 rfl) ?_
            refine lv_iload C.1 C.2.1 dX16_small_120 (lv_at hl 8 rfl) ?_
            refine lv_if_ne (tgt := 147) C.1 C.2.1 dX16_small_122 (by decide) (fun c27 => ?_) (fun c27 => ?_)
            · rw [if_neg c27] at hh
              refine lv_iload C.1 C.2.1 dX16_small_147 (lv_at hl 8 rfl) ?_
              refine lv_iconst (v := 1) C.1 C.2.1 dX16_small_149 (by decide) ?_
              refine lv_icmp_ne (tgt := 158) C.1 C.2.1 dX16_small_150 (by decide) (fun c26 => ?_) (fun c26 => ?_)
              · rw [if_neg c26] at hh
                refine lv_iload C.1 C.2.1 dX16_small_158 (lv_at hl 8 rfl) ?_
                refine lv_iconst (v := 2) C.1 C.2.1 dX16_small_160 (by decide) ?_
                refine lv_icmp_ne (tgt := 169) C.1 C.2.1 dX16_small_161 (by decide) (fun c25 => ?_) (fun c25 => ?_)
                · rw [if_neg c25] at hh
                  refine lv_iload C.1 C.2.1 dX16_small_169 (lv_at hl 0 rfl) ?_
                  exact B171 _ _ _ _ _ _  hm hs (lv_sub hl [] rfl) hh
                · rw [if_pos c25] at hh
                  refine lv_iload C.1 C.2.1 dX16_small_164 (lv_at hl 2 rfl) ?_
                  refine lv_goto (tgt := 171) C.1 C.2.1 dX16_small_166 (by decide) ?_
                  exact B171 _ _ _ _ _ _  hm hs (lv_sub hl [] rfl) hh
              · rw [if_pos c26] at hh
                refine lv_iload C.1 C.2.1 dX16_small_153 (lv_at hl 1 rfl) ?_
                refine lv_goto (tgt := 171) C.1 C.2.1 dX16_small_155 (by decide) ?_
                exact B171 _ _ _ _ _ _  hm hs (lv_sub hl [] rfl) hh
            · rw [if_pos c27] at hh
              refine lv_iload C.1 C.2.1 dX16_small_125 (lv_at hl 1 rfl) ?_
              refine lv_iload C.1 C.2.1 dX16_small_127 (lv_at hl 0 rfl) ?_
              refine lv_imul C.1 C.2.1 dX16_small_129 ?_
              refine lv_iload C.1 C.2.1 dX16_small_130 (lv_at hl 2 rfl) ?_
              refine lv_sipush (v := 1000) C.1 C.2.1 dX16_small_132 (by decide) ?_
              refine lv_iload C.1 C.2.1 dX16_small_135 (lv_at hl 0 rfl) ?_
              refine lv_isub C.1 C.2.1 dX16_small_137 ?_
              refine lv_imul C.1 C.2.1 dX16_small_138 ?_
              refine lv_iadd C.1 C.2.1 dX16_small_139 ?_
              refine lv_sipush (v := 1000) C.1 C.2.1 dX16_small_140 (by decide) ?_
              refine lv_idiv C.1 C.2.1 dX16_small_143 (by decide) ?_
              refine lv_goto (tgt := 171) C.1 C.2.1 dX16_small_144 (by decide) ?_
              exact B171 _ _ _ _ _ _  hm hs (lv_sub hl [] rfl) hh
          · rw [if_neg c30] at hh
            refine r_aload_n C.1 C.2.1 dX16_small_71 rfl (lv_at hl 1 rfl) ?_
            refine lv_iconst (v := 5) C.1 C.2.1 dX16_small_72 (by decide) ?_
            refine r_cV C X hm hs mlX16_293 mvX16_293 hh (vv := fun r => some (.int r.1)) (hp := fun r => r.2) (fun b r hg => c_X16_refused l G h5 b _ r hg) rfl rfl (Nat.le_of_ble_eq_true rfl) (Nat.le_of_ble_eq_true rfl) (Nat.le_of_ble_eq_true rfl) hl.1 dX16_small_73 (fun b29 r28 H locs hgr28 hh hm hs => ?_)
            refine W.eq (g2 := F0 m 76 ls [.int r28.1]) rfl ?_
            exact r_iretW hQ C hr hm hs hh dX16_small_76
        · rw [if_pos c31] at hh
          exact B48 _ _ _ _ _  hm hs (lv_sub hl [0] rfl) hh
def mX16_set_b21 (h : MHp) (a0 : Nat) : Option (Int32 × MHp) := (rcv 17 h (some a0)).bind fun b2 => (mX16_denied h b2 1).bind fun r1 => (rB r1.1).bind fun _ => some (r1.1, r1.2)
def mX16_set_b125 (h : MHp) (a0 : Nat) : Option (Int32 × MHp) := (rcv 17 h (some a0)).bind fun b4 => (mX16_granted h b4).bind fun r3 => (rB r3.1).bind fun _ => some (r3.1, r3.2)
def mX16_set_b70 (h : MHp) (a0 : Nat) (v1 : Int32) (v2 : Int32) (t0 : Int32) (t1 : Int32) (t2 : Int32) : Option (Int32 × MHp) := (mX16_in h t0 t1 t2).bind fun r5 => (if r5 = 0 then (rcv 17 h (some a0)).bind fun b14 => (mX16_denied h b14 2).bind fun r13 => (rB r13.1).bind fun _ => some (r13.1, r13.2) else (if v1 = 0 then (pI 17 37 h (some a0) v2).bind fun h11 => mX16_set_b125 h11 a0 else (if v1 = 1 then (pI 17 38 h (some a0) v2).bind fun h9 => mX16_set_b125 h9 a0 else (if v1 = 2 then (pI 17 39 h (some a0) v2).bind fun h7 => mX16_set_b125 h7 a0 else (pI 17 40 h (some a0) v2).bind fun h6 => mX16_set_b125 h6 a0))))
def mX16_set_b38 (h : MHp) (a0 : Nat) (v1 : Int32) (v2 : Int32) (t0 : Int32) (t1 : Int32) : Option (Int32 × MHp) := (if v1 = 0 then mX16_set_b70 h a0 v1 v2 t0 t1 20 else (if v1 = 1 then mX16_set_b70 h a0 v1 v2 t0 t1 50 else (if v1 = 2 then mX16_set_b70 h a0 v1 v2 t0 t1 99 else mX16_set_b70 h a0 v1 v2 t0 t1 1000)))
def mX16_set (h : MHp) (a0 : Nat) (a1 : Int32) (a2 : Int32) : Option (Int32 × MHp) := (pI 17 0 h (some a0) 0).bind fun h19 => (gR 17 4 h19 (some a0)).bind fun x20 => (if x20 = none then mX16_set_b21 h19 a0 else (mX16_in h19 a1 0 3).bind fun r21 => (if r21 = 0 then mX16_set_b21 h19 a0 else (if a1 = 3 then mX16_set_b38 h19 a0 a1 a2 a2 0 else mX16_set_b38 h19 a0 a1 a2 a2 1)))
set_option maxRecDepth 100000 in
set_option maxHeartbeats 4000000 in
theorem c_X16_set (l : Launch) (G : Env0) (h : MHp) (a0 : Nat) (a1 : Int32) (a2 : Int32) (res : Int32 × MHp) (hh : mX16_set h a0 a1 a2 = some res) : MG l yX16_set cX16_set 3 (some .boolean) 1 22 0 0 G h [.ref a0, .int a1, .int a2] (some (.int res.1)) (res.2) := by
  refine MG_of (own := RX16) (plainFor_of_name (by decide)) rfl (Nat.le_of_ble_eq_true rfl) ?_
  intro p e s m args below meth c Q ls hQ C X hin hm hs hl hr
  have hl : lv_has ls 3 [(0, va_rf (some a0)), (1, .int a1), (2, .int a2)] := hl
  have B21 : ∀ (h : MHp) (H : Heap) (locs : List Loc) (ls : Array Slot) (a0 : Nat) , mHp (gD G) (gC G) (gB G) h H → va_S (fun q => gB G ≤ q) s.heap H locs → lv_has ls 3 [(0, va_rf (some a0))] → mX16_set_b21 h a0 = some res → W p l e ({ frames := 1, cells := 0, slots := 0, locals := 22 }) s m args below meth c H locs 0 0 Q (F0 m 21 ls []) := by
    intro h H locs ls a0 hm hs hl hh
    unfold mX16_set_b21 at hh
    refine r_aload_n C.1 C.2.1 dX16_set_21 rfl (lv_at hl 0 rfl) ?_
    refine lv_iconst (v := 1) C.1 C.2.1 dX16_set_22 (by decide) ?_
    refine r_cV C X hm hs mlX16_339 mvX16_339 hh (vv := fun r => some (.int r.1)) (hp := fun r => r.2) (fun b r hg => c_X16_denied l G h b _ r hg) rfl rfl (Nat.le_of_ble_eq_true rfl) (Nat.le_of_ble_eq_true rfl) (Nat.le_of_ble_eq_true rfl) hl.1 dX16_set_23 (fun b2 r1 H locs hgr1 hh hm hs => ?_)
    refine W.eq (g2 := F0 m 26 ls [.int r1.1]) rfl ?_
    exact r_rbretW hQ C hr hm hs hh dX16_set_26
  have B125 : ∀ (h : MHp) (H : Heap) (locs : List Loc) (ls : Array Slot) (a0 : Nat) , mHp (gD G) (gC G) (gB G) h H → va_S (fun q => gB G ≤ q) s.heap H locs → lv_has ls 3 [(0, va_rf (some a0))] → mX16_set_b125 h a0 = some res → W p l e ({ frames := 1, cells := 0, slots := 0, locals := 22 }) s m args below meth c H locs 0 0 Q (F0 m 125 ls []) := by
    intro h H locs ls a0 hm hs hl hh
    unfold mX16_set_b125 at hh
    refine r_aload_n C.1 C.2.1 dX16_set_125 rfl (lv_at hl 0 rfl) ?_
    refine r_cV C X hm hs mlX16_342 mvX16_342 hh (vv := fun r => some (.int r.1)) (hp := fun r => r.2) (fun b r hg => c_X16_granted l G h b  r hg) rfl rfl (Nat.le_of_ble_eq_true rfl) (Nat.le_of_ble_eq_true rfl) (Nat.le_of_ble_eq_true rfl) hl.1 dX16_set_126 (fun b4 r3 H locs hgr3 hh hm hs => ?_)
    refine W.eq (g2 := F0 m 129 ls [.int r3.1]) rfl ?_
    exact r_rbretW hQ C hr hm hs hh dX16_set_129
  have B70 : ∀ (h : MHp) (H : Heap) (locs : List Loc) (ls : Array Slot) (a0 : Nat) (v1 : Int32) (v2 : Int32) (t0 : Int32) (t1 : Int32) (t2 : Int32) , mHp (gD G) (gC G) (gB G) h H → va_S (fun q => gB G ≤ q) s.heap H locs → lv_has ls 3 [(0, va_rf (some a0)), (1, .int v1), (2, .int v2)] → mX16_set_b70 h a0 v1 v2 t0 t1 t2 = some res → W p l e ({ frames := 1, cells := 0, slots := 0, locals := 22 }) s m args below meth c H locs 0 0 Q (F0 m 70 ls [.int t2, .int t1, .int t0]) := by
    intro h H locs ls a0 v1 v2 t0 t1 t2 hm hs hl hh
    unfold mX16_set_b70 at hh
    refine r_cS C X hm hs mlX16_231 msX16_231 hh (vv := fun r => some (.int r)) (hp := fun r => h) (fun r hg => c_X16_in l G h _ _ _ r hg) rfl rfl (Nat.le_of_ble_eq_true rfl) (Nat.le_of_ble_eq_true rfl) (Nat.le_of_ble_eq_true rfl) hl.1 dX16_set_70 (fun r5 H locs hgr5 hh hm hs => ?_)
    refine W.eq (g2 := F0 m 73 ls [.int r5]) rfl ?_
    refine lv_if_ne (tgt := 82) C.1 C.2.1 dX16_set_73 (by decide) (fun c15 => ?_) (fun c15 => ?_)
    · rw [if_neg c15] at hh
      refine lv_iload_n C.1 C.2.1 dX16_set_82 rfl (lv_at hl 1 rfl) ?_
      refine lv_if_ne (tgt := 94) C.1 C.2.1 dX16_set_83 (by decide) (fun c12 => ?_) (fun c12 => ?_)
      · rw [if_neg c12] at hh
        refine lv_iload_n C.1 C.2.1 dX16_set_94 rfl (lv_at hl 1 rfl) ?_
        refine lv_iconst (v := 1) C.1 C.2.1 dX16_set_95 (by decide) ?_
        refine lv_icmp_ne (tgt := 107) C.1 C.2.1 dX16_set_96 (by decide) (fun c10 => ?_) (fun c10 => ?_)
        · rw [if_neg c10] at hh
          refine lv_iload_n C.1 C.2.1 dX16_set_107 rfl (lv_at hl 1 rfl) ?_
          refine lv_iconst (v := 2) C.1 C.2.1 dX16_set_108 (by decide) ?_
          refine lv_icmp_ne (tgt := 120) C.1 C.2.1 dX16_set_109 (by decide) (fun c8 => ?_) (fun c8 => ?_)
          · rw [if_neg c8] at hh
            refine r_aload_n C.1 C.2.1 dX16_set_120 rfl (lv_at hl 0 rfl) ?_
            refine lv_iload_n C.1 C.2.1 dX16_set_121 rfl (lv_at hl 2 rfl) ?_
            refine r_putI C hm hs flX16_320 (Or.inl fm_17_40) dX16_set_122 hh (fun h6 H locs _ hh hm hs => ?_)
            exact B125 _ _ _ _ _  hm hs (lv_sub hl [0] rfl) hh
          · rw [if_pos c8] at hh
            refine r_aload_n C.1 C.2.1 dX16_set_112 rfl (lv_at hl 0 rfl) ?_
            refine lv_iload_n C.1 C.2.1 dX16_set_113 rfl (lv_at hl 2 rfl) ?_
            refine r_putI C hm hs flX16_88 (Or.inl fm_17_39) dX16_set_114 hh (fun h7 H locs _ hh hm hs => ?_)
            refine lv_goto (tgt := 125) C.1 C.2.1 dX16_set_117 (by decide) ?_
            exact B125 _ _ _ _ _  hm hs (lv_sub hl [0] rfl) hh
        · rw [if_pos c10] at hh
          refine r_aload_n C.1 C.2.1 dX16_set_99 rfl (lv_at hl 0 rfl) ?_
          refine lv_iload_n C.1 C.2.1 dX16_set_100 rfl (lv_at hl 2 rfl) ?_
          refine r_putI C hm hs flX16_85 (Or.inl fm_17_38) dX16_set_101 hh (fun h9 H locs _ hh hm hs => ?_)
          refine lv_goto (tgt := 125) C.1 C.2.1 dX16_set_104 (by decide) ?_
          exact B125 _ _ _ _ _  hm hs (lv_sub hl [0] rfl) hh
      · rw [if_pos c12] at hh
        refine r_aload_n C.1 C.2.1 dX16_set_86 rfl (lv_at hl 0 rfl) ?_
        refine lv_iload_n C.1 C.2.1 dX16_set_87 rfl (lv_at hl 2 rfl) ?_
        refine r_putI C hm hs flX16_82 (Or.inl fm_17_37) dX16_set_88 hh (fun h11 H locs _ hh hm hs => ?_)
        refine lv_goto (tgt := 125) C.1 C.2.1 dX16_set_91 (by decide) ?_
        exact B125 _ _ _ _ _  hm hs (lv_sub hl [0] rfl) hh
    · rw [if_pos c15] at hh
      refine r_aload_n C.1 C.2.1 dX16_set_76 rfl (lv_at hl 0 rfl) ?_
      refine lv_iconst (v := 2) C.1 C.2.1 dX16_set_77 (by decide) ?_
      refine r_cV C X hm hs mlX16_339 mvX16_339 hh (vv := fun r => some (.int r.1)) (hp := fun r => r.2) (fun b r hg => c_X16_denied l G h b _ r hg) rfl rfl (Nat.le_of_ble_eq_true rfl) (Nat.le_of_ble_eq_true rfl) (Nat.le_of_ble_eq_true rfl) hl.1 dX16_set_78 (fun b14 r13 H locs hgr13 hh hm hs => ?_)
      refine W.eq (g2 := F0 m 81 ls [.int r13.1]) rfl ?_
      exact r_rbretW hQ C hr hm hs hh dX16_set_81
  have B38 : ∀ (h : MHp) (H : Heap) (locs : List Loc) (ls : Array Slot) (a0 : Nat) (v1 : Int32) (v2 : Int32) (t0 : Int32) (t1 : Int32) , mHp (gD G) (gC G) (gB G) h H → va_S (fun q => gB G ≤ q) s.heap H locs → lv_has ls 3 [(0, va_rf (some a0)), (1, .int v1), (2, .int v2)] → mX16_set_b38 h a0 v1 v2 t0 t1 = some res → W p l e ({ frames := 1, cells := 0, slots := 0, locals := 22 }) s m args below meth c H locs 0 0 Q (F0 m 38 ls [.int t1, .int t0]) := by
    intro h H locs ls a0 v1 v2 t0 t1 hm hs hl hh
    unfold mX16_set_b38 at hh
    refine lv_iload_n C.1 C.2.1 dX16_set_38 rfl (lv_at hl 1 rfl) ?_
    refine lv_if_ne (tgt := 47) C.1 C.2.1 dX16_set_39 (by decide) (fun c18 => ?_) (fun c18 => ?_)
    · rw [if_neg c18] at hh
      refine lv_iload_n C.1 C.2.1 dX16_set_47 rfl (lv_at hl 1 rfl) ?_
      refine lv_iconst (v := 1) C.1 C.2.1 dX16_set_48 (by decide) ?_
      refine lv_icmp_ne (tgt := 57) C.1 C.2.1 dX16_set_49 (by decide) (fun c17 => ?_) (fun c17 => ?_)
      · rw [if_neg c17] at hh
        refine lv_iload_n C.1 C.2.1 dX16_set_57 rfl (lv_at hl 1 rfl) ?_
        refine lv_iconst (v := 2) C.1 C.2.1 dX16_set_58 (by decide) ?_
        refine lv_icmp_ne (tgt := 67) C.1 C.2.1 dX16_set_59 (by decide) (fun c16 => ?_) (fun c16 => ?_)
        · rw [if_neg c16] at hh
          refine lv_sipush (v := 1000) C.1 C.2.1 dX16_set_67 (by decide) ?_
          exact B70 _ _ _ _ _ _ _ _ _ _  hm hs (lv_sub hl [0, 1, 2] rfl) hh
        · rw [if_pos c16] at hh
          refine lv_bipush (v := 99) C.1 C.2.1 dX16_set_62 (by decide) ?_
          refine lv_goto (tgt := 70) C.1 C.2.1 dX16_set_64 (by decide) ?_
          exact B70 _ _ _ _ _ _ _ _ _ _  hm hs (lv_sub hl [0, 1, 2] rfl) hh
      · rw [if_pos c17] at hh
        refine lv_bipush (v := 50) C.1 C.2.1 dX16_set_52 (by decide) ?_
        refine lv_goto (tgt := 70) C.1 C.2.1 dX16_set_54 (by decide) ?_
        exact B70 _ _ _ _ _ _ _ _ _ _  hm hs (lv_sub hl [0, 1, 2] rfl) hh
    · rw [if_pos c18] at hh
      refine lv_bipush (v := 20) C.1 C.2.1 dX16_set_42 (by decide) ?_
      refine lv_goto (tgt := 70) C.1 C.2.1 dX16_set_44 (by decide) ?_
      exact B70 _ _ _ _ _ _ _ _ _ _  hm hs (lv_sub hl [0, 1, 2] rfl) hh
  unfold mX16_set at hh
  refine r_aload_n C.1 C.2.1 dX16_set_0 rfl (lv_at hl 0 rfl) ?_
  refine lv_iconst (v := 0) C.1 C.2.1 dX16_set_1 (by decide) ?_
  refine r_putI C hm hs flX16_109 (Or.inl fm_17_0) dX16_set_2 hh (fun h19 H locs _ hh hm hs => ?_)
  refine r_aload_n C.1 C.2.1 dX16_set_5 rfl (lv_at hl 0 rfl) ?_
  refine r_getR C hm flX16_274 dX16_set_6 hh (fun x20 _ hh => ?_)
  refine r_ifnull (tgt := 21) C.1 C.2.1 dX16_set_9 (by decide) (fun c24 => ?_) (fun c24 => ?_)
  · rw [if_pos c24] at hh
    exact B21 _ _ _ _ _  hm hs (lv_sub hl [0] rfl) hh
  · rw [if_neg c24] at hh
    refine lv_iload_n C.1 C.2.1 dX16_set_12 rfl (lv_at hl 1 rfl) ?_
    refine lv_iconst (v := 0) C.1 C.2.1 dX16_set_13 (by decide) ?_
    refine lv_iconst (v := 3) C.1 C.2.1 dX16_set_14 (by decide) ?_
    refine r_cS C X hm hs mlX16_231 msX16_231 hh (vv := fun r => some (.int r)) (hp := fun r => h19) (fun r hg => c_X16_in l G h19 _ _ _ r hg) rfl rfl (Nat.le_of_ble_eq_true rfl) (Nat.le_of_ble_eq_true rfl) (Nat.le_of_ble_eq_true rfl) hl.1 dX16_set_15 (fun r21 H locs hgr21 hh hm hs => ?_)
    refine W.eq (g2 := F0 m 18 ls [.int r21]) rfl ?_
    refine lv_if_ne (tgt := 27) C.1 C.2.1 dX16_set_18 (by decide) (fun c23 => ?_) (fun c23 => ?_)
    · rw [if_neg c23] at hh
      refine lv_iload_n C.1 C.2.1 dX16_set_27 rfl (lv_at hl 2 rfl) ?_
      refine lv_iload_n C.1 C.2.1 dX16_set_28 rfl (lv_at hl 1 rfl) ?_
      refine lv_iconst (v := 3) C.1 C.2.1 dX16_set_29 (by decide) ?_
      refine lv_icmp_ne (tgt := 37) C.1 C.2.1 dX16_set_30 (by decide) (fun c22 => ?_) (fun c22 => ?_)
      · rw [if_neg c22] at hh
        refine lv_iconst (v := 1) C.1 C.2.1 dX16_set_37 (by decide) ?_
        exact B38 _ _ _ _ _ _ _ _ _  hm hs (lv_sub hl [0, 1, 2] rfl) hh
      · rw [if_pos c22] at hh
        refine lv_iconst (v := 0) C.1 C.2.1 dX16_set_33 (by decide) ?_
        refine lv_goto (tgt := 38) C.1 C.2.1 dX16_set_34 (by decide) ?_
        exact B38 _ _ _ _ _ _ _ _ _  hm hs (lv_sub hl [0, 1, 2] rfl) hh
    · rw [if_pos c23] at hh
      exact B21 _ _ _ _ _  hm hs (lv_sub hl [0] rfl) hh
def mX16_counts_b114 (k51 : MHp → Nat → Option Nat → Option Nat → Int32 → Option (MHp)) (k62 : MHp → Nat → Option Nat → Option Nat → Int32 → Int32 → Option (MHp)) (h : MHp) (a0 : Nat) (v1 : Option Nat) (v2 : Option Nat) (v3 : Int32) (v4 : Int32) (t0 : Option Nat) (t1 : Int32) (t2 : Int32) (t3 : Int32) : Option (MHp) := (pAI 20 h t0 t1 (t2 + t3)).bind fun h1 => k62 h1 a0 v1 v2 v3 (v4 + 1)
def mX16_counts_l62 (k51 : MHp → Nat → Option Nat → Option Nat → Int32 → Option (MHp)) : Nat → MHp → Nat → Option Nat → Option Nat → Int32 → Int32 → Option (MHp)
  | 0, _, _, _, _, _, _ => none
  | n + 1, h, a0, v1, v2, v3, v4 => (gI 17 45 h (some a0)).bind fun x2 => (gI 17 46 h (some a0)).bind fun x3 => (if (x2 * x3) ≤ v4 then k51 h a0 v1 v2 (v3 + 1) else (gAI 20 h v2 v4).bind fun x4 => (gI 17 46 h (some a0)).bind fun x5 => (nz x5).bind fun _ => (gI 17 46 h (some a0)).bind fun x6 => (nz x6).bind fun _ => (gI 17 19 h (some a0)).bind fun x7 => (rcv 17 h (some a0)).bind fun b9 => (mX16_isIn h b9 v1 v3 (v4 / x5) (v4 - v4 / x6 * x6) x7 0).bind fun r8 => (if r8.1 = 0 then mX16_counts_b114 k51 (mX16_counts_l62 k51 n) r8.2 a0 v1 v2 v3 v4 v2 v4 x4 0 else mX16_counts_b114 k51 (mX16_counts_l62 k51 n) r8.2 a0 v1 v2 v3 v4 v2 v4 x4 1))
def mX16_counts_l51 : Nat → MHp → Nat → Option Nat → Option Nat → Int32 → Option (MHp)
  | 0, _, _, _, _, _ => none
  | n + 1, h, a0, v1, v2, v3 => (gI 17 18 h (some a0)).bind fun x12 => (if x12 ≤ v3 then some h else mX16_counts_l62 (mX16_counts_l51 n) FUEL h a0 v1 v2 v3 0)
def mX16_counts_l26 : Nat → MHp → Nat → Option Nat → Option Nat → Int32 → Option (MHp)
  | 0, _, _, _, _, _ => none
  | n + 1, h, a0, v1, v2, v3 => (gI 17 45 h (some a0)).bind fun x14 => (gI 17 46 h (some a0)).bind fun x15 => (if (x14 * x15) ≤ v3 then mX16_counts_l51 FUEL h a0 v1 v2 0 else (pAI 20 h v2 v3 0).bind fun h16 => mX16_counts_l26 n h16 a0 v1 v2 (v3 + 1))
def mX16_counts (h : MHp) (a0 : Nat) (a1 : Option Nat) (a2 : Option Nat) : Option (MHp) := (gI 15 1 h a1).bind fun x18 => (rcv 17 h (some a0)).bind fun b20 => (mX16_valuesOf h b20 x18).bind fun r19 => (pI 17 45 h (some a0) r19).bind fun h21 => (gI 15 2 h21 a1).bind fun x22 => (rcv 17 h21 (some a0)).bind fun b24 => (mX16_valuesOf h21 b24 x22).bind fun r23 => (pI 17 46 h21 (some a0) r23).bind fun h25 => mX16_counts_l26 FUEL h25 a0 a1 a2 0
set_option maxRecDepth 100000 in
set_option maxHeartbeats 4000000 in
theorem c_X16_counts (l : Launch) (G : Env0) (h : MHp) (a0 : Nat) (a1 : Option Nat) (a2 : Option Nat) (res : MHp) (hh : mX16_counts h a0 a1 a2 = some res) : MG l yX16_counts cX16_counts 5 none 3 76 0 0 G h [.ref a0, va_rf a1, va_rf a2] (none) (res) := by
  refine MG_of (own := RX16) (plainFor_of_name (by decide)) rfl (by simp [lg_sl, va_cat, vc_i, vc_l, vc_r]) ?_
  intro p e s m args below meth c Q ls hQ C X hin hm hs hl hr
  have hl : lv_has ls 5 [(0, .ref a0), (1, va_rf a1), (2, va_rf a2)] := by simpa [lv_args, va_cat, vc_i, vc_l, vc_r] using hl
  have hl : lv_has ls 5 [(0, va_rf (some a0)), (1, va_rf a1), (2, va_rf a2)] := hl
  have B114 : ∀ (k51 : MHp → Nat → Option Nat → Option Nat → Int32 → Option (MHp)), (∀ (h : MHp) (H : Heap) (locs : List Loc) (ls : Array Slot) (a0 : Nat) (v1 : Option Nat) (v2 : Option Nat) (v3 : Int32) , mHp (gD G) (gC G) (gB G) h H → va_S (fun q => gB G ≤ q) s.heap H locs → lv_has ls 5 [(0, va_rf (some a0)), (1, va_rf v1), (2, va_rf v2), (3, .int v3)] → k51 h a0 v1 v2 v3 = some res → W p l e ({ frames := 3, cells := 0, slots := 0, locals := 76 }) s m args below meth c H locs 0 0 Q (F0 m 51 ls [])) → ∀ (k62 : MHp → Nat → Option Nat → Option Nat → Int32 → Int32 → Option (MHp)), (∀ (h : MHp) (H : Heap) (locs : List Loc) (ls : Array Slot) (a0 : Nat) (v1 : Option Nat) (v2 : Option Nat) (v3 : Int32) (v4 : Int32) , mHp (gD G) (gC G) (gB G) h H → va_S (fun q => gB G ≤ q) s.heap H locs → lv_has ls 5 [(0, va_rf (some a0)), (1, va_rf v1), (2, va_rf v2), (3, .int v3), (4, .int v4)] → k62 h a0 v1 v2 v3 v4 = some res → W p l e ({ frames := 3, cells := 0, slots := 0, locals := 76 }) s m args below meth c H locs 0 0 Q (F0 m 62 ls [])) → ∀ (h : MHp) (H : Heap) (locs : List Loc) (ls : Array Slot) (a0 : Nat) (v1 : Option Nat) (v2 : Option Nat) (v3 : Int32) (v4 : Int32) (t0 : Option Nat) (t1 : Int32) (t2 : Int32) (t3 : Int32) , mHp (gD G) (gC G) (gB G) h H → va_S (fun q => gB G ≤ q) s.heap H locs → lv_has ls 5 [(0, va_rf (some a0)), (1, va_rf v1), (2, va_rf v2), (3, .int v3), (4, .int v4)] → mX16_counts_b114 k51 k62 h a0 v1 v2 v3 v4 t0 t1 t2 t3 = some res → W p l e ({ frames := 3, cells := 0, slots := 0, locals := 76 }) s m args below meth c H locs 0 0 Q (F0 m 114 ls [.int t3, .int t2, .int t1, va_rf t0]) := by
    intro k51 hk51 k62 hk62 h H locs ls a0 v1 v2 v3 v4 t0 t1 t2 t3 hm hs hl hh
    unfold mX16_counts_b114 at hh
    refine lv_iadd C.1 C.2.1 dX16_counts_114 ?_
    refine r_ast C hm hs dX16_counts_115 hh (fun h1 H locs _ hh hm hs => ?_)
    refine lv_iinc (v := (v4 + 1)) (lv' := [(4, .int (v4 + 1)), (0, va_rf (some a0)), (1, va_rf v1), (2, va_rf v2), (3, .int v3)]) C.1 C.2.1 dX16_counts_116 hl (k := 4) rfl rfl (by decide) rfl (fun ls hl => ?_)
    refine lv_goto (tgt := 62) C.1 C.2.1 dX16_counts_119 (by decide) ?_
    exact hk62 _ _ _ _ _ _ _ _ _  hm hs (lv_sub hl [1, 2, 3, 4, 0] rfl) hh
  have B62 : ∀ (k51 : MHp → Nat → Option Nat → Option Nat → Int32 → Option (MHp)), (∀ (h : MHp) (H : Heap) (locs : List Loc) (ls : Array Slot) (a0 : Nat) (v1 : Option Nat) (v2 : Option Nat) (v3 : Int32) , mHp (gD G) (gC G) (gB G) h H → va_S (fun q => gB G ≤ q) s.heap H locs → lv_has ls 5 [(0, va_rf (some a0)), (1, va_rf v1), (2, va_rf v2), (3, .int v3)] → k51 h a0 v1 v2 v3 = some res → W p l e ({ frames := 3, cells := 0, slots := 0, locals := 76 }) s m args below meth c H locs 0 0 Q (F0 m 51 ls [])) → ∀ n : Nat, ∀ (h : MHp) (H : Heap) (locs : List Loc) (ls : Array Slot) (a0 : Nat) (v1 : Option Nat) (v2 : Option Nat) (v3 : Int32) (v4 : Int32) , mHp (gD G) (gC G) (gB G) h H → va_S (fun q => gB G ≤ q) s.heap H locs → lv_has ls 5 [(0, va_rf (some a0)), (1, va_rf v1), (2, va_rf v2), (3, .int v3), (4, .int v4)] → mX16_counts_l62 k51 n h a0 v1 v2 v3 v4 = some res → W p l e ({ frames := 3, cells := 0, slots := 0, locals := 76 }) s m args below meth c H locs 0 0 Q (F0 m 62 ls []) := by
    intro k51 hk51 n
    induction n with
    | zero => intro h H locs ls a0 v1 v2 v3 v4 hm hs hl hh; cases hh
    | succ n ih =>
      intro h H locs ls a0 v1 v2 v3 v4 hm hs hl hh
      unfold mX16_counts_l62 at hh
      refine lv_iload C.1 C.2.1 dX16_counts_62 (lv_at hl 4 rfl) ?_
      refine r_aload_n C.1 C.2.1 dX16_counts_64 rfl (lv_at hl 0 rfl) ?_
      refine r_getI C hm flX16_427 dX16_counts_65 hh (fun x2 _ hh => ?_)
      refine r_aload_n C.1 C.2.1 dX16_counts_68 rfl (lv_at hl 0 rfl) ?_
      refine r_getI C hm flX16_430 dX16_counts_69 hh (fun x3 _ hh => ?_)
      refine lv_imul C.1 C.2.1 dX16_counts_72 ?_
      refine lv_icmp_ge (tgt := 122) C.1 C.2.1 dX16_counts_73 (by decide) (fun c11 => ?_) (fun c11 => ?_)
      · rw [if_pos c11] at hh
        refine lv_iinc (v := (v3 + 1)) (lv' := [(3, .int (v3 + 1)), (0, va_rf (some a0)), (1, va_rf v1), (2, va_rf v2), (4, .int v4)]) C.1 C.2.1 dX16_counts_122 hl (k := 3) rfl rfl (by decide) (by simp [va_cat, vc_i, vc_l, vc_r]) (fun ls hl => ?_)
        refine lv_goto (tgt := 51) C.1 C.2.1 dX16_counts_125 (by decide) ?_
        exact hk51 _ _ _ _ _ _ _ _  hm hs (lv_sub hl [1, 2, 3, 0] rfl) hh
      · rw [if_neg c11] at hh
        refine r_aload_n C.1 C.2.1 dX16_counts_76 rfl (lv_at hl 2 rfl) ?_
        refine lv_iload C.1 C.2.1 dX16_counts_77 (lv_at hl 4 rfl) ?_
        refine lv_dup2_11 C.1 C.2.1 dX16_counts_79 rfl (va_cat _) ?_
        refine r_ald C hm dX16_counts_80 hh (fun x4 _ hh => ?_)
        refine r_aload_n C.1 C.2.1 dX16_counts_81 rfl (lv_at hl 0 rfl) ?_
        refine r_aload_n C.1 C.2.1 dX16_counts_82 rfl (lv_at hl 1 rfl) ?_
        refine lv_iload_n C.1 C.2.1 dX16_counts_83 rfl (lv_at hl 3 rfl) ?_
        refine lv_iload C.1 C.2.1 dX16_counts_84 (lv_at hl 4 rfl) ?_
        refine r_aload_n C.1 C.2.1 dX16_counts_86 rfl (lv_at hl 0 rfl) ?_
        refine r_getI C hm flX16_430 dX16_counts_87 hh (fun x5 _ hh => ?_)
        refine r_idiv C dX16_counts_90 hh (fun _ hh => ?_)
        refine lv_iload C.1 C.2.1 dX16_counts_91 (lv_at hl 4 rfl) ?_
        refine r_aload_n C.1 C.2.1 dX16_counts_93 rfl (lv_at hl 0 rfl) ?_
        refine r_getI C hm flX16_430 dX16_counts_94 hh (fun x6 _ hh => ?_)
        refine r_irem C dX16_counts_97 hh (fun _ hh => ?_)
        refine r_aload_n C.1 C.2.1 dX16_counts_98 rfl (lv_at hl 0 rfl) ?_
        refine r_getI C hm flX16_314 dX16_counts_99 hh (fun x7 _ hh => ?_)
        refine lv_iconst (v := 0) C.1 C.2.1 dX16_counts_102 (by decide) ?_
        refine r_cV C X hm hs mlX16_389 mvX16_389 hh (vv := fun r => some (.int r.1)) (hp := fun r => r.2) (fun b r hg => c_X16_isIn l G h b _ _ _ _ _ _ r hg) rfl rfl (by simp [va_cat, vc_i, vc_l, vc_r]) (Nat.le_of_ble_eq_true rfl) (Nat.le_of_ble_eq_true rfl) hl.1 dX16_counts_103 (fun b9 r8 H locs hgr8 hh hm hs => ?_)
        refine W.eq (g2 := F0 m 106 ls [.int r8.1, .int x4, .int v4, va_rf v2]) rfl ?_
        refine lv_if_eq (tgt := 113) C.1 C.2.1 dX16_counts_106 (by decide) (fun c10 => ?_) (fun c10 => ?_)
        · rw [if_pos c10] at hh
          refine lv_iconst (v := 0) C.1 C.2.1 dX16_counts_113 (by decide) ?_
          exact B114 _ hk51 _ ih _ _ _ _ _ _ _ _ _ _ _ _ _  hm hs (lv_sub hl [0, 1, 2, 3, 4] rfl) hh
        · rw [if_neg c10] at hh
          refine lv_iconst (v := 1) C.1 C.2.1 dX16_counts_109 (by decide) ?_
          refine lv_goto (tgt := 114) C.1 C.2.1 dX16_counts_110 (by decide) ?_
          exact B114 _ hk51 _ ih _ _ _ _ _ _ _ _ _ _ _ _ _  hm hs (lv_sub hl [0, 1, 2, 3, 4] rfl) hh
  have B51 : ∀ n : Nat, ∀ (h : MHp) (H : Heap) (locs : List Loc) (ls : Array Slot) (a0 : Nat) (v1 : Option Nat) (v2 : Option Nat) (v3 : Int32) , mHp (gD G) (gC G) (gB G) h H → va_S (fun q => gB G ≤ q) s.heap H locs → lv_has ls 5 [(0, va_rf (some a0)), (1, va_rf v1), (2, va_rf v2), (3, .int v3)] → mX16_counts_l51 n h a0 v1 v2 v3 = some res → W p l e ({ frames := 3, cells := 0, slots := 0, locals := 76 }) s m args below meth c H locs 0 0 Q (F0 m 51 ls []) := by
    intro n
    induction n with
    | zero => intro h H locs ls a0 v1 v2 v3 hm hs hl hh; cases hh
    | succ n ih =>
      intro h H locs ls a0 v1 v2 v3 hm hs hl hh
      unfold mX16_counts_l51 at hh
      refine lv_iload_n C.1 C.2.1 dX16_counts_51 rfl (lv_at hl 3 rfl) ?_
      refine r_aload_n C.1 C.2.1 dX16_counts_52 rfl (lv_at hl 0 rfl) ?_
      refine r_getI C hm flX16_308 dX16_counts_53 hh (fun x12 _ hh => ?_)
      refine lv_icmp_ge (tgt := 128) C.1 C.2.1 dX16_counts_56 (by decide) (fun c13 => ?_) (fun c13 => ?_)
      · rw [if_pos c13] at hh
        exact r_vretW hQ C hr hm hs hh dX16_counts_128
      · rw [if_neg c13] at hh
        refine lv_iconst (v := 0) C.1 C.2.1 dX16_counts_59 (by decide) ?_
        refine lv_istore (i := 4) (lv' := [(4, .int 0), (0, va_rf (some a0)), (1, va_rf v1), (2, va_rf v2), (3, .int v3)]) C.1 C.2.1 dX16_counts_60 hl (by decide) rfl (fun ls hl => ?_)
        exact B62 _ ih FUEL _ _ _ _ _ _ _ _ _  hm hs (lv_sub hl [1, 2, 3, 4, 0] rfl) hh
  have B26 : ∀ n : Nat, ∀ (h : MHp) (H : Heap) (locs : List Loc) (ls : Array Slot) (a0 : Nat) (v1 : Option Nat) (v2 : Option Nat) (v3 : Int32) , mHp (gD G) (gC G) (gB G) h H → va_S (fun q => gB G ≤ q) s.heap H locs → lv_has ls 5 [(0, va_rf (some a0)), (1, va_rf v1), (2, va_rf v2), (3, .int v3)] → mX16_counts_l26 n h a0 v1 v2 v3 = some res → W p l e ({ frames := 3, cells := 0, slots := 0, locals := 76 }) s m args below meth c H locs 0 0 Q (F0 m 26 ls []) := by
    intro n
    induction n with
    | zero => intro h H locs ls a0 v1 v2 v3 hm hs hl hh; cases hh
    | succ n ih =>
      intro h H locs ls a0 v1 v2 v3 hm hs hl hh
      unfold mX16_counts_l26 at hh
      refine lv_iload_n C.1 C.2.1 dX16_counts_26 rfl (lv_at hl 3 rfl) ?_
      refine r_aload_n C.1 C.2.1 dX16_counts_27 rfl (lv_at hl 0 rfl) ?_
      refine r_getI C hm flX16_427 dX16_counts_28 hh (fun x14 _ hh => ?_)
      refine r_aload_n C.1 C.2.1 dX16_counts_31 rfl (lv_at hl 0 rfl) ?_
      refine r_getI C hm flX16_430 dX16_counts_32 hh (fun x15 _ hh => ?_)
      refine lv_imul C.1 C.2.1 dX16_counts_35 ?_
      refine lv_icmp_ge (tgt := 49) C.1 C.2.1 dX16_counts_36 (by decide) (fun c17 => ?_) (fun c17 => ?_)
      · rw [if_pos c17] at hh
        refine lv_iconst (v := 0) C.1 C.2.1 dX16_counts_49 (by decide) ?_
        refine lv_istore_n (i := 3) (lv' := [(3, .int 0), (0, va_rf (some a0)), (1, va_rf v1), (2, va_rf v2)]) C.1 C.2.1 dX16_counts_50 rfl hl (by decide) (by simp [va_cat, vc_i, vc_l, vc_r]) (fun ls hl => ?_)
        exact B51 FUEL _ _ _ _ _ _ _ _  hm hs (lv_sub hl [1, 2, 3, 0] rfl) hh
      · rw [if_neg c17] at hh
        refine r_aload_n C.1 C.2.1 dX16_counts_39 rfl (lv_at hl 2 rfl) ?_
        refine lv_iload_n C.1 C.2.1 dX16_counts_40 rfl (lv_at hl 3 rfl) ?_
        refine lv_iconst (v := 0) C.1 C.2.1 dX16_counts_41 (by decide) ?_
        refine r_ast C hm hs dX16_counts_42 hh (fun h16 H locs _ hh hm hs => ?_)
        refine lv_iinc (v := (v3 + 1)) (lv' := [(3, .int (v3 + 1)), (0, va_rf (some a0)), (1, va_rf v1), (2, va_rf v2)]) C.1 C.2.1 dX16_counts_43 hl (k := 3) rfl rfl (by decide) (by simp [va_cat, vc_i, vc_l, vc_r]) (fun ls hl => ?_)
        refine lv_goto (tgt := 26) C.1 C.2.1 dX16_counts_46 (by decide) ?_
        exact ih _ _ _ _ _ _ _ _  hm hs (lv_sub hl [1, 2, 3, 0] rfl) hh
  unfold mX16_counts at hh
  refine r_aload_n C.1 C.2.1 dX16_counts_0 rfl (lv_at hl 0 rfl) ?_
  refine r_aload_n C.1 C.2.1 dX16_counts_1 rfl (lv_at hl 0 rfl) ?_
  refine r_aload_n C.1 C.2.1 dX16_counts_2 rfl (lv_at hl 1 rfl) ?_
  refine r_getI C hm flX16_279 dX16_counts_3 hh (fun x18 _ hh => ?_)
  refine r_cV C X hm hs mlX16_382 mvX16_382 hh (vv := fun r => some (.int r)) (hp := fun r => h) (fun b r hg => c_X16_valuesOf l G h b _ r hg) rfl rfl (by simp [va_cat, vc_i, vc_l, vc_r]) (Nat.le_of_ble_eq_true rfl) (Nat.le_of_ble_eq_true rfl) hl.1 dX16_counts_6 (fun b20 r19 H locs hgr19 hh hm hs => ?_)
  refine W.eq (g2 := F0 m 9 ls [.int r19, va_rf (some a0)]) rfl ?_
  refine r_putI C hm hs flX16_427 (Or.inl fm_17_45) dX16_counts_9 hh (fun h21 H locs _ hh hm hs => ?_)
  refine r_aload_n C.1 C.2.1 dX16_counts_12 rfl (lv_at hl 0 rfl) ?_
  refine r_aload_n C.1 C.2.1 dX16_counts_13 rfl (lv_at hl 0 rfl) ?_
  refine r_aload_n C.1 C.2.1 dX16_counts_14 rfl (lv_at hl 1 rfl) ?_
  refine r_getI C hm flX16_281 dX16_counts_15 hh (fun x22 _ hh => ?_)
  refine r_cV C X hm hs mlX16_382 mvX16_382 hh (vv := fun r => some (.int r)) (hp := fun r => h21) (fun b r hg => c_X16_valuesOf l G h21 b _ r hg) rfl rfl (by simp [va_cat, vc_i, vc_l, vc_r]) (Nat.le_of_ble_eq_true rfl) (Nat.le_of_ble_eq_true rfl) hl.1 dX16_counts_18 (fun b24 r23 H locs hgr23 hh hm hs => ?_)
  refine W.eq (g2 := F0 m 21 ls [.int r23, va_rf (some a0)]) rfl ?_
  refine r_putI C hm hs flX16_430 (Or.inl fm_17_46) dX16_counts_21 hh (fun h25 H locs _ hh hm hs => ?_)
  refine lv_iconst (v := 0) C.1 C.2.1 dX16_counts_24 (by decide) ?_
  refine lv_istore_n (i := 3) (lv' := [(3, .int 0), (0, va_rf (some a0)), (1, va_rf a1), (2, va_rf a2)]) C.1 C.2.1 dX16_counts_25 rfl hl (by decide) (by simp [va_cat, vc_i, vc_l, vc_r]) (fun ls hl => ?_)
  exact B26 FUEL _ _ _ _ _ _ _ _  hm hs (lv_sub hl [1, 2, 3, 0] rfl) hh
def mX16_isByTwo (h : MHp) (a0 : Nat) (a1 : Option Nat) : Option (Int32) := (gI 15 0 h a1).bind fun x1 => (if x1 = (-1) then (gI 15 2 h a1).bind fun x2 => (if x2 = (-1) then some 0 else (gI 15 1 h a1).bind fun x3 => (rcv 17 h (some a0)).bind fun b5 => (mX16_valuesOf h b5 x3).bind fun r4 => (gI 15 2 h a1).bind fun x6 => (rcv 17 h (some a0)).bind fun b8 => (mX16_valuesOf h b8 x6).bind fun r7 => (if 60 < (r4 * r7) then some 0 else some 1)) else some 0)
set_option maxRecDepth 100000 in
set_option maxHeartbeats 4000000 in
theorem c_X16_isByTwo (l : Launch) (G : Env0) (h : MHp) (a0 : Nat) (a1 : Option Nat) (res : Int32) (hh : mX16_isByTwo h a0 a1 = some res) : MG l yX16_isByTwo cX16_isByTwo 2 (some .boolean) 1 21 0 0 G h [.ref a0, va_rf a1] (some (.int res)) (h) := by
  refine MG_of (own := RX16) (plainFor_of_name (by decide)) rfl (by simp [lg_sl, va_cat, vc_i, vc_l, vc_r]) ?_
  intro p e s m args below meth c Q ls hQ C X hin hm hs hl hr
  have hl : lv_has ls 2 [(0, .ref a0), (1, va_rf a1)] := by simpa [lv_args, va_cat, vc_i, vc_l, vc_r] using hl
  have hl : lv_has ls 2 [(0, va_rf (some a0)), (1, va_rf a1)] := hl
  unfold mX16_isByTwo at hh
  refine r_aload_n C.1 C.2.1 dX16_isByTwo_0 rfl (lv_at hl 1 rfl) ?_
  refine r_getI C hm flX16_277 dX16_isByTwo_1 hh (fun x1 _ hh => ?_)
  refine lv_iconst (v := (-1)) C.1 C.2.1 dX16_isByTwo_4 (by decide) ?_
  refine lv_icmp_ne (tgt := 42) C.1 C.2.1 dX16_isByTwo_5 (by decide) (fun c11 => ?_) (fun c11 => ?_)
  · rw [if_neg c11] at hh
    refine lv_iconst (v := 0) C.1 C.2.1 dX16_isByTwo_42 (by decide) ?_
    exact r_bretP hQ C hr hm hs (by decide) hh dX16_isByTwo_43
  · rw [if_pos c11] at hh
    refine r_aload_n C.1 C.2.1 dX16_isByTwo_8 rfl (lv_at hl 1 rfl) ?_
    refine r_getI C hm flX16_281 dX16_isByTwo_9 hh (fun x2 _ hh => ?_)
    refine lv_iconst (v := (-1)) C.1 C.2.1 dX16_isByTwo_12 (by decide) ?_
    refine lv_icmp_eq (tgt := 42) C.1 C.2.1 dX16_isByTwo_13 (by decide) (fun c10 => ?_) (fun c10 => ?_)
    · rw [if_pos c10] at hh
      refine lv_iconst (v := 0) C.1 C.2.1 dX16_isByTwo_42 (by decide) ?_
      exact r_bretP hQ C hr hm hs (by decide) hh dX16_isByTwo_43
    · rw [if_neg c10] at hh
      refine r_aload_n C.1 C.2.1 dX16_isByTwo_16 rfl (lv_at hl 0 rfl) ?_
      refine r_aload_n C.1 C.2.1 dX16_isByTwo_17 rfl (lv_at hl 1 rfl) ?_
      refine r_getI C hm flX16_279 dX16_isByTwo_18 hh (fun x3 _ hh => ?_)
      refine r_cV C X hm hs mlX16_382 mvX16_382 hh (vv := fun r => some (.int r)) (hp := fun r => h) (fun b r hg => c_X16_valuesOf l G h b _ r hg) rfl rfl (Nat.le_of_ble_eq_true rfl) (Nat.le_of_ble_eq_true rfl) (Nat.le_of_ble_eq_true rfl) hl.1 dX16_isByTwo_21 (fun b5 r4 H locs hgr4 hh hm hs => ?_)
      refine W.eq (g2 := F0 m 24 ls [.int r4]) rfl ?_
      refine r_aload_n C.1 C.2.1 dX16_isByTwo_24 rfl (lv_at hl 0 rfl) ?_
      refine r_aload_n C.1 C.2.1 dX16_isByTwo_25 rfl (lv_at hl 1 rfl) ?_
      refine r_getI C hm flX16_281 dX16_isByTwo_26 hh (fun x6 _ hh => ?_)
      refine r_cV C X hm hs mlX16_382 mvX16_382 hh (vv := fun r => some (.int r)) (hp := fun r => h) (fun b r hg => c_X16_valuesOf l G h b _ r hg) rfl rfl (Nat.le_of_ble_eq_true rfl) (Nat.le_of_ble_eq_true rfl) (Nat.le_of_ble_eq_true rfl) hl.1 dX16_isByTwo_29 (fun b8 r7 H locs hgr7 hh hm hs => ?_)
      refine W.eq (g2 := F0 m 32 ls [.int r7, .int r4]) rfl ?_
      refine lv_imul C.1 C.2.1 dX16_isByTwo_32 ?_
      refine lv_bipush (v := 60) C.1 C.2.1 dX16_isByTwo_33 (by decide) ?_
      refine lv_icmp_gt (tgt := 42) C.1 C.2.1 dX16_isByTwo_35 (by decide) (fun c9 => ?_) (fun c9 => ?_)
      · rw [if_pos c9] at hh
        refine lv_iconst (v := 0) C.1 C.2.1 dX16_isByTwo_42 (by decide) ?_
        exact r_bretP hQ C hr hm hs (by decide) hh dX16_isByTwo_43
      · rw [if_neg c9] at hh
        refine lv_iconst (v := 1) C.1 C.2.1 dX16_isByTwo_38 (by decide) ?_
        refine lv_goto (tgt := 43) C.1 C.2.1 dX16_isByTwo_39 (by decide) ?_
        exact r_bretP hQ C hr hm hs (by decide) hh dX16_isByTwo_43
def mX16_isShy (h : MHp) (a0 : Nat) (a1 : Int32) : Option (Int32) := (gR 17 42 h (some a0)).bind fun x1 => (gAI 20 h x1 a1).bind fun x2 => (gI 17 37 h (some a0)).bind fun x3 => (mX16_in h x2 1 (x3 - 1)).bind fun r4 => (rB r4).bind fun _ => some r4
set_option maxRecDepth 100000 in
set_option maxHeartbeats 4000000 in
theorem c_X16_isShy (l : Launch) (G : Env0) (h : MHp) (a0 : Nat) (a1 : Int32) (res : Int32) (hh : mX16_isShy h a0 a1 = some res) : MG l yX16_isShy cX16_isShy 2 (some .boolean) 1 22 0 0 G h [.ref a0, .int a1] (some (.int res)) (h) := by
  refine MG_of (own := RX16) (plainFor_of_name (by decide)) rfl (Nat.le_of_ble_eq_true rfl) ?_
  intro p e s m args below meth c Q ls hQ C X hin hm hs hl hr
  have hl : lv_has ls 2 [(0, va_rf (some a0)), (1, .int a1)] := hl
  unfold mX16_isShy at hh
  refine r_aload_n C.1 C.2.1 dX16_isShy_0 rfl (lv_at hl 0 rfl) ?_
  refine r_getR C hm flX16_91 dX16_isShy_1 hh (fun x1 _ hh => ?_)
  refine lv_iload_n C.1 C.2.1 dX16_isShy_4 rfl (lv_at hl 1 rfl) ?_
  refine r_ald C hm dX16_isShy_5 hh (fun x2 _ hh => ?_)
  refine lv_iconst (v := 1) C.1 C.2.1 dX16_isShy_6 (by decide) ?_
  refine r_aload_n C.1 C.2.1 dX16_isShy_7 rfl (lv_at hl 0 rfl) ?_
  refine r_getI C hm flX16_82 dX16_isShy_8 hh (fun x3 _ hh => ?_)
  refine lv_iconst (v := 1) C.1 C.2.1 dX16_isShy_11 (by decide) ?_
  refine lv_isub C.1 C.2.1 dX16_isShy_12 ?_
  refine r_cS C X hm hs mlX16_231 msX16_231 hh (vv := fun r => some (.int r)) (hp := fun r => h) (fun r hg => c_X16_in l G h _ _ _ r hg) rfl rfl (Nat.le_of_ble_eq_true rfl) (Nat.le_of_ble_eq_true rfl) (Nat.le_of_ble_eq_true rfl) hl.1 dX16_isShy_13 (fun r4 H locs hgr4 hh hm hs => ?_)
  refine W.eq (g2 := F0 m 16 ls [.int r4]) rfl ?_
  exact r_rbretP hQ C hr hm hs hh dX16_isShy_16
def mX16_shy_b83 (k56 : MHp → Nat → Int32 → Int32 → Option (Int32 × MHp)) (h : MHp) (a0 : Nat) (v3 : Int32) (t0 : Int32) (t1 : Int32) : Option (Int32 × MHp) := k56 h a0 (t0 + t1) (v3 + 1)
def mX16_shy_l56 : Nat → MHp → Nat → Int32 → Int32 → Option (Int32 × MHp)
  | 0, _, _, _, _ => none
  | n + 1, h, a0, v2, v3 => (gI 17 45 h (some a0)).bind fun x1 => (gI 17 46 h (some a0)).bind fun x2 => (if (x1 * x2) ≤ v3 then (rcv 17 h (some a0)).bind fun b4 => (mX16_done h b4 v2).bind fun r3 => some (r3.1, r3.2) else (rcv 17 h (some a0)).bind fun b6 => (mX16_isShy h b6 v3).bind fun r5 => (if r5 = 0 then mX16_shy_b83 (mX16_shy_l56 n) h a0 v3 v2 0 else mX16_shy_b83 (mX16_shy_l56 n) h a0 v3 v2 1))
def mX16_shy (h : MHp) (a0 : Nat) (a1 : Int32) : Option (Int32 × MHp) := (pI 17 0 h (some a0) 0).bind fun h9 => (rcv 17 h9 (some a0)).bind fun b11 => (mX16_isTable h9 b11 a1).bind fun r10 => (if r10 = 0 then (rcv 17 h9 (some a0)).bind fun b25 => (mX16_refused h9 b25 1).bind fun r24 => some (r24.1, r24.2) else (gR 17 6 h9 (some a0)).bind fun x12 => (gAR 26 h9 x12 a1).bind fun x13 => (rcv 17 h9 (some a0)).bind fun b15 => (mX16_isByTwo h9 b15 x13).bind fun r14 => (if r14 = 0 then (rcv 17 h9 (some a0)).bind fun b22 => (mX16_refused h9 b22 5).bind fun r21 => some (r21.1, r21.2) else (gR 17 6 h9 (some a0)).bind fun x16 => (gAR 26 h9 x16 a1).bind fun x17 => (gR 17 42 h9 (some a0)).bind fun x18 => (rcv 17 h9 (some a0)).bind fun b20 => (mX16_counts h9 b20 x17 x18).bind fun r19 => mX16_shy_l56 FUEL r19 a0 0 0))
set_option maxRecDepth 100000 in
set_option maxHeartbeats 4000000 in
theorem c_X16_shy (l : Launch) (G : Env0) (h : MHp) (a0 : Nat) (a1 : Int32) (res : Int32 × MHp) (hh : mX16_shy h a0 a1 = some res) : MG l yX16_shy cX16_shy 4 (some .int) 4 100 0 0 G h [.ref a0, .int a1] (some (.int res.1)) (res.2) := by
  refine MG_of (own := RX16) (plainFor_of_name (by decide)) rfl (Nat.le_of_ble_eq_true rfl) ?_
  intro p e s m args below meth c Q ls hQ C X hin hm hs hl hr
  have hl : lv_has ls 4 [(0, va_rf (some a0)), (1, .int a1)] := hl
  have B83 : ∀ (k56 : MHp → Nat → Int32 → Int32 → Option (Int32 × MHp)), (∀ (h : MHp) (H : Heap) (locs : List Loc) (ls : Array Slot) (a0 : Nat) (v2 : Int32) (v3 : Int32) , mHp (gD G) (gC G) (gB G) h H → va_S (fun q => gB G ≤ q) s.heap H locs → lv_has ls 4 [(0, va_rf (some a0)), (2, .int v2), (3, .int v3)] → k56 h a0 v2 v3 = some res → W p l e ({ frames := 4, cells := 0, slots := 0, locals := 100 }) s m args below meth c H locs 0 0 Q (F0 m 56 ls [])) → ∀ (h : MHp) (H : Heap) (locs : List Loc) (ls : Array Slot) (a0 : Nat) (v3 : Int32) (t0 : Int32) (t1 : Int32) , mHp (gD G) (gC G) (gB G) h H → va_S (fun q => gB G ≤ q) s.heap H locs → lv_has ls 4 [(0, va_rf (some a0)), (3, .int v3)] → mX16_shy_b83 k56 h a0 v3 t0 t1 = some res → W p l e ({ frames := 4, cells := 0, slots := 0, locals := 100 }) s m args below meth c H locs 0 0 Q (F0 m 83 ls [.int t1, .int t0]) := by
    intro k56 hk56 h H locs ls a0 v3 t0 t1 hm hs hl hh
    unfold mX16_shy_b83 at hh
    refine lv_iadd C.1 C.2.1 dX16_shy_83 ?_
    refine lv_istore_n (i := 2) (lv' := [(2, .int (t0 + t1)), (0, va_rf (some a0)), (3, .int v3)]) C.1 C.2.1 dX16_shy_84 rfl hl (by decide) rfl (fun ls hl => ?_)
    refine lv_iinc (v := (v3 + 1)) (lv' := [(3, .int (v3 + 1)), (2, .int (t0 + t1)), (0, va_rf (some a0))]) C.1 C.2.1 dX16_shy_85 hl (k := 2) rfl rfl (by decide) rfl (fun ls hl => ?_)
    refine lv_goto (tgt := 56) C.1 C.2.1 dX16_shy_88 (by decide) ?_
    exact hk56 _ _ _ _ _ _ _  hm hs (lv_sub hl [2, 1, 0] rfl) hh
  have B56 : ∀ n : Nat, ∀ (h : MHp) (H : Heap) (locs : List Loc) (ls : Array Slot) (a0 : Nat) (v2 : Int32) (v3 : Int32) , mHp (gD G) (gC G) (gB G) h H → va_S (fun q => gB G ≤ q) s.heap H locs → lv_has ls 4 [(0, va_rf (some a0)), (2, .int v2), (3, .int v3)] → mX16_shy_l56 n h a0 v2 v3 = some res → W p l e ({ frames := 4, cells := 0, slots := 0, locals := 100 }) s m args below meth c H locs 0 0 Q (F0 m 56 ls []) := by
    intro n
    induction n with
    | zero => intro h H locs ls a0 v2 v3 hm hs hl hh; cases hh
    | succ n ih =>
      intro h H locs ls a0 v2 v3 hm hs hl hh
      unfold mX16_shy_l56 at hh
      refine lv_iload_n C.1 C.2.1 dX16_shy_56 rfl (lv_at hl 2 rfl) ?_
      refine r_aload_n C.1 C.2.1 dX16_shy_57 rfl (lv_at hl 0 rfl) ?_
      refine r_getI C hm flX16_427 dX16_shy_58 hh (fun x1 _ hh => ?_)
      refine r_aload_n C.1 C.2.1 dX16_shy_61 rfl (lv_at hl 0 rfl) ?_
      refine r_getI C hm flX16_430 dX16_shy_62 hh (fun x2 _ hh => ?_)
      refine lv_imul C.1 C.2.1 dX16_shy_65 ?_
      refine lv_icmp_ge (tgt := 91) C.1 C.2.1 dX16_shy_66 (by decide) (fun c8 => ?_) (fun c8 => ?_)
      · rw [if_pos c8] at hh
        refine r_aload_n C.1 C.2.1 dX16_shy_91 rfl (lv_at hl 0 rfl) ?_
        refine lv_iload_n C.1 C.2.1 dX16_shy_92 rfl (lv_at hl 1 rfl) ?_
        refine r_cV C X hm hs mlX16_323 mvX16_323 hh (vv := fun r => some (.int r.1)) (hp := fun r => r.2) (fun b r hg => c_X16_done l G h b _ r hg) rfl rfl (Nat.le_of_ble_eq_true rfl) (Nat.le_of_ble_eq_true rfl) (Nat.le_of_ble_eq_true rfl) hl.1 dX16_shy_93 (fun b4 r3 H locs hgr3 hh hm hs => ?_)
        refine W.eq (g2 := F0 m 96 ls [.int r3.1]) rfl ?_
        exact r_iretW hQ C hr hm hs hh dX16_shy_96
      · rw [if_neg c8] at hh
        refine lv_iload_n C.1 C.2.1 dX16_shy_69 rfl (lv_at hl 1 rfl) ?_
        refine r_aload_n C.1 C.2.1 dX16_shy_70 rfl (lv_at hl 0 rfl) ?_
        refine lv_iload_n C.1 C.2.1 dX16_shy_71 rfl (lv_at hl 2 rfl) ?_
        refine r_cV C X hm hs mlX16_441 mvX16_441 hh (vv := fun r => some (.int r)) (hp := fun r => h) (fun b r hg => c_X16_isShy l G h b _ r hg) rfl rfl (Nat.le_of_ble_eq_true rfl) (Nat.le_of_ble_eq_true rfl) (Nat.le_of_ble_eq_true rfl) hl.1 dX16_shy_72 (fun b6 r5 H locs hgr5 hh hm hs => ?_)
        refine W.eq (g2 := F0 m 75 ls [.int r5, .int v2]) rfl ?_
        refine lv_if_eq (tgt := 82) C.1 C.2.1 dX16_shy_75 (by decide) (fun c7 => ?_) (fun c7 => ?_)
        · rw [if_pos c7] at hh
          refine lv_iconst (v := 0) C.1 C.2.1 dX16_shy_82 (by decide) ?_
          exact B83 _ ih _ _ _ _ _ _ _ _  hm hs (lv_sub hl [0, 2] rfl) hh
        · rw [if_neg c7] at hh
          refine lv_iconst (v := 1) C.1 C.2.1 dX16_shy_78 (by decide) ?_
          refine lv_goto (tgt := 83) C.1 C.2.1 dX16_shy_79 (by decide) ?_
          exact B83 _ ih _ _ _ _ _ _ _ _  hm hs (lv_sub hl [0, 2] rfl) hh
  unfold mX16_shy at hh
  refine r_aload_n C.1 C.2.1 dX16_shy_0 rfl (lv_at hl 0 rfl) ?_
  refine lv_iconst (v := 0) C.1 C.2.1 dX16_shy_1 (by decide) ?_
  refine r_putI C hm hs flX16_109 (Or.inl fm_17_0) dX16_shy_2 hh (fun h9 H locs _ hh hm hs => ?_)
  refine r_aload_n C.1 C.2.1 dX16_shy_5 rfl (lv_at hl 0 rfl) ?_
  refine lv_iload_n C.1 C.2.1 dX16_shy_6 rfl (lv_at hl 1 rfl) ?_
  refine r_cV C X hm hs mlX16_379 mvX16_379 hh (vv := fun r => some (.int r)) (hp := fun r => h9) (fun b r hg => c_X16_isTable l G h9 b _ r hg) rfl rfl (Nat.le_of_ble_eq_true rfl) (Nat.le_of_ble_eq_true rfl) (Nat.le_of_ble_eq_true rfl) hl.1 dX16_shy_7 (fun b11 r10 H locs hgr10 hh hm hs => ?_)
  refine W.eq (g2 := F0 m 10 ls [.int r10]) rfl ?_
  refine lv_if_ne (tgt := 19) C.1 C.2.1 dX16_shy_10 (by decide) (fun c26 => ?_) (fun c26 => ?_)
  · rw [if_neg c26] at hh
    refine r_aload_n C.1 C.2.1 dX16_shy_19 rfl (lv_at hl 0 rfl) ?_
    refine r_aload_n C.1 C.2.1 dX16_shy_20 rfl (lv_at hl 0 rfl) ?_
    refine r_getR C hm flX16_15 dX16_shy_21 hh (fun x12 _ hh => ?_)
    refine lv_iload_n C.1 C.2.1 dX16_shy_24 rfl (lv_at hl 1 rfl) ?_
    refine r_ald_q C hm dX16_shy_25 (kd := 26) (by decide) (t0 := 6) rfl hh (fun x13 _ hh => ?_)
    refine r_cV C X hm hs mlX16_433 mvX16_433 hh (vv := fun r => some (.int r)) (hp := fun r => h9) (fun b r hg => c_X16_isByTwo l G h9 b _ r hg) rfl rfl (Nat.le_of_ble_eq_true rfl) (Nat.le_of_ble_eq_true rfl) (Nat.le_of_ble_eq_true rfl) hl.1 dX16_shy_26 (fun b15 r14 H locs hgr14 hh hm hs => ?_)
    refine W.eq (g2 := F0 m 29 ls [.int r14]) rfl ?_
    refine lv_if_ne (tgt := 38) C.1 C.2.1 dX16_shy_29 (by decide) (fun c23 => ?_) (fun c23 => ?_)
    · rw [if_neg c23] at hh
      refine r_aload_n C.1 C.2.1 dX16_shy_38 rfl (lv_at hl 0 rfl) ?_
      refine r_aload_n C.1 C.2.1 dX16_shy_39 rfl (lv_at hl 0 rfl) ?_
      refine r_getR C hm flX16_15 dX16_shy_40 hh (fun x16 _ hh => ?_)
      refine lv_iload_n C.1 C.2.1 dX16_shy_43 rfl (lv_at hl 1 rfl) ?_
      refine r_ald_q C hm dX16_shy_44 (kd := 26) (by decide) (t0 := 6) rfl hh (fun x17 _ hh => ?_)
      refine r_aload_n C.1 C.2.1 dX16_shy_45 rfl (lv_at hl 0 rfl) ?_
      refine r_getR C hm flX16_91 dX16_shy_46 hh (fun x18 _ hh => ?_)
      refine r_cV C X hm hs mlX16_437 mvX16_437 hh (vv := fun r => none) (hp := fun r => r) (fun b r hg => c_X16_counts l G h9 b _ _ r hg) rfl rfl (Nat.le_of_ble_eq_true rfl) (Nat.le_of_ble_eq_true rfl) (Nat.le_of_ble_eq_true rfl) hl.1 dX16_shy_49 (fun b20 r19 H locs hgr19 hh hm hs => ?_)
      refine W.eq (g2 := F0 m 52 ls []) rfl ?_
      refine lv_iconst (v := 0) C.1 C.2.1 dX16_shy_52 (by decide) ?_
      refine lv_istore_n (i := 2) (lv' := [(2, .int 0), (0, va_rf (some a0)), (1, .int a1)]) C.1 C.2.1 dX16_shy_53 rfl hl (by decide) rfl (fun ls hl => ?_)
      refine lv_iconst (v := 0) C.1 C.2.1 dX16_shy_54 (by decide) ?_
      refine lv_istore_n (i := 3) (lv' := [(3, .int 0), (2, .int 0), (0, va_rf (some a0)), (1, .int a1)]) C.1 C.2.1 dX16_shy_55 rfl hl (by decide) rfl (fun ls hl => ?_)
      exact B56 FUEL _ _ _ _ _ _ _  hm hs (lv_sub hl [2, 1, 0] rfl) hh
    · rw [if_pos c23] at hh
      refine r_aload_n C.1 C.2.1 dX16_shy_32 rfl (lv_at hl 0 rfl) ?_
      refine lv_iconst (v := 5) C.1 C.2.1 dX16_shy_33 (by decide) ?_
      refine r_cV C X hm hs mlX16_293 mvX16_293 hh (vv := fun r => some (.int r.1)) (hp := fun r => r.2) (fun b r hg => c_X16_refused l G h9 b _ r hg) rfl rfl (Nat.le_of_ble_eq_true rfl) (Nat.le_of_ble_eq_true rfl) (Nat.le_of_ble_eq_true rfl) hl.1 dX16_shy_34 (fun b22 r21 H locs hgr21 hh hm hs => ?_)
      refine W.eq (g2 := F0 m 37 ls [.int r21.1]) rfl ?_
      exact r_iretW hQ C hr hm hs hh dX16_shy_37
  · rw [if_pos c26] at hh
    refine r_aload_n C.1 C.2.1 dX16_shy_13 rfl (lv_at hl 0 rfl) ?_
    refine lv_iconst (v := 1) C.1 C.2.1 dX16_shy_14 (by decide) ?_
    refine r_cV C X hm hs mlX16_293 mvX16_293 hh (vv := fun r => some (.int r.1)) (hp := fun r => r.2) (fun b r hg => c_X16_refused l G h9 b _ r hg) rfl rfl (Nat.le_of_ble_eq_true rfl) (Nat.le_of_ble_eq_true rfl) (Nat.le_of_ble_eq_true rfl) hl.1 dX16_shy_15 (fun b25 r24 H locs hgr24 hh hm hs => ?_)
    refine W.eq (g2 := F0 m 18 ls [.int r24.1]) rfl ?_
    exact r_iretW hQ C hr hm hs hh dX16_shy_18
def mX16_has (h : MHp) (a0 : Int64) (a1 : Int32) : Option (Int32) := (if (lg_cmp ((a0 >>> (a1.toInt64 &&& 63)) &&& 1) 1) = 0 then some 1 else some 0)
set_option maxRecDepth 100000 in
set_option maxHeartbeats 4000000 in
theorem c_X16_has (l : Launch) (G : Env0) (h : MHp) (a0 : Int64) (a1 : Int32) (res : Int32) (hh : mX16_has h a0 a1 = some res) : MG l yX16_has cX16_has 3 (some .boolean) 0 0 0 0 G h [.long a0, .int a1] (some (.int res)) (h) := by
  refine MG_of (own := RX16) (plainFor_of_name (by decide)) rfl (Nat.le_of_ble_eq_true rfl) ?_
  intro p e s m args below meth c Q ls hQ C X hin hm hs hl hr
  have hl : lv_has ls 3 [(0, .long a0), (2, .int a1)] := hl
  unfold mX16_has at hh
  refine lv_lload_n C.1 C.2.1 dX16_has_0 rfl (lv_at hl 0 rfl) ?_
  refine lv_iload_n C.1 C.2.1 dX16_has_1 rfl (lv_at hl 1 rfl) ?_
  refine lv_lshr (v := (a0 >>> (a1.toInt64 &&& 63))) C.1 C.2.1 dX16_has_2 rfl ?_
  refine lv_lconst (v := 1) C.1 C.2.1 dX16_has_3 (by decide) ?_
  refine lv_land C.1 C.2.1 dX16_has_4 ?_
  refine lv_lconst (v := 1) C.1 C.2.1 dX16_has_5 (by decide) ?_
  refine W.lcmp C.1 C.2.1 dX16_has_6 ?_
  refine lv_if_ne (tgt := 14) C.1 C.2.1 dX16_has_7 (by decide) (fun c1 => ?_) (fun c1 => ?_)
  · rw [if_neg c1] at hh
    refine lv_iconst (v := 0) C.1 C.2.1 dX16_has_14 (by decide) ?_
    exact r_bretP hQ C hr hm hs (by decide) hh dX16_has_15
  · rw [if_pos c1] at hh
    refine lv_iconst (v := 1) C.1 C.2.1 dX16_has_10 (by decide) ?_
    refine lv_goto (tgt := 15) C.1 C.2.1 dX16_has_11 (by decide) ?_
    exact r_bretP hQ C hr hm hs (by decide) hh dX16_has_15
def mX16_leads_b232 (k51 : MHp → Nat → Int32 → Int64 → Int32 → Int32 → Int32 → Option (Int32 × MHp)) (k70 : MHp → Nat → Int32 → Int64 → Int32 → Int32 → Int32 → Int32 → Int32 → Option (Int32 × MHp)) (h : MHp) (a0 : Nat) (v2 : Int32) (v3 : Int64) (v5 : Int32) (v6 : Int32) (v7 : Int32) (v8 : Int32) (v9 : Int32) : Option (Int32 × MHp) := k70 h a0 v2 v3 v5 v6 v7 v8 (v9 + 1)
def mX16_leads_b211 (k51 : MHp → Nat → Int32 → Int64 → Int32 → Int32 → Int32 → Option (Int32 × MHp)) (k70 : MHp → Nat → Int32 → Int64 → Int32 → Int32 → Int32 → Int32 → Int32 → Option (Int32 × MHp)) (h : MHp) (a0 : Nat) (v2 : Int32) (v3 : Int64) (v5 : Int32) (v6 : Int32) (v7 : Int32) (v8 : Int32) (v9 : Int32) : Option (Int32 × MHp) := (gR 17 47 h (some a0)).bind fun x1 => (pAI 20 h x1 v9 v8).bind fun h2 => (gR 17 48 h2 (some a0)).bind fun x3 => (pAI 20 h2 x3 v6 v9).bind fun h4 => mX16_leads_b232 k51 k70 h4 a0 v2 v3 v5 (v6 + 1) v7 v8 v9
def mX16_leads_b171 (k51 : MHp → Nat → Int32 → Int64 → Int32 → Int32 → Int32 → Option (Int32 × MHp)) (k70 : MHp → Nat → Int32 → Int64 → Int32 → Int32 → Int32 → Int32 → Int32 → Option (Int32 × MHp)) (h : MHp) (a0 : Nat) (v2 : Int32) (v3 : Int64) (v5 : Int32) (v6 : Int32) (v7 : Int32) (v8 : Int32) (v9 : Int32) (t0 : Int32) : Option (Int32 × MHp) := (if t0 = v5 then mX16_leads_b232 k51 k70 h a0 v2 v3 v5 v6 v7 v8 v9 else (mX16_has h v3 t0).bind fun r5 => (if r5 = 0 then mX16_leads_b232 k51 k70 h a0 v2 v3 v5 v6 v7 v8 v9 else (gI 17 45 h (some a0)).bind fun x6 => (if v8 < x6 then mX16_leads_b211 k51 k70 h a0 v2 v3 v5 v6 v7 v8 v9 else (gR 17 44 h (some a0)).bind fun x7 => (gAI 20 h x7 t0).bind fun x8 => (if x8 = 0 then mX16_leads_b232 k51 k70 h a0 v2 v3 v5 v6 v7 v8 v9 else mX16_leads_b211 k51 k70 h a0 v2 v3 v5 v6 v7 v8 v9))))
def mX16_leads_b112 (k51 : MHp → Nat → Int32 → Int64 → Int32 → Int32 → Int32 → Option (Int32 × MHp)) (k70 : MHp → Nat → Int32 → Int64 → Int32 → Int32 → Int32 → Int32 → Int32 → Option (Int32 × MHp)) (h : MHp) (a0 : Nat) (v2 : Int32) (v3 : Int64) (v5 : Int32) (v6 : Int32) (v7 : Int32) (v8 : Int32) (v9 : Int32) (t0 : Int32) (t1 : Int32) : Option (Int32 × MHp) := (if t0 = t1 then mX16_leads_b232 k51 k70 h a0 v2 v3 v5 v6 v7 v8 v9 else (gR 17 47 h (some a0)).bind fun x13 => (gAI 20 h x13 v9).bind fun x14 => (if x14 = (-1) then (gI 17 45 h (some a0)).bind fun x15 => (if x15 ≤ v8 then (gI 17 46 h (some a0)).bind fun x16 => (gI 17 45 h (some a0)).bind fun x17 => mX16_leads_b171 k51 k70 h a0 v2 v3 v5 v6 v7 v8 v9 (((x16 * v9) + v8) - x17) else (gI 17 46 h (some a0)).bind fun x18 => (gI 17 45 h (some a0)).bind fun x19 => mX16_leads_b171 k51 k70 h a0 v2 v3 v5 v6 v7 v8 v9 (((x18 * v8) + v9) - x19)) else mX16_leads_b232 k51 k70 h a0 v2 v3 v5 v6 v7 v8 v9))
def mX16_leads_b98 (k51 : MHp → Nat → Int32 → Int64 → Int32 → Int32 → Int32 → Option (Int32 × MHp)) (k70 : MHp → Nat → Int32 → Int64 → Int32 → Int32 → Int32 → Int32 → Int32 → Option (Int32 × MHp)) (h : MHp) (a0 : Nat) (v2 : Int32) (v3 : Int64) (v5 : Int32) (v6 : Int32) (v7 : Int32) (v8 : Int32) (v9 : Int32) (t0 : Int32) : Option (Int32 × MHp) := (gI 17 45 h (some a0)).bind fun x23 => (if x23 ≤ v9 then mX16_leads_b112 k51 k70 h a0 v2 v3 v5 v6 v7 v8 v9 t0 0 else mX16_leads_b112 k51 k70 h a0 v2 v3 v5 v6 v7 v8 v9 t0 1)
def mX16_leads_l70 (k51 : MHp → Nat → Int32 → Int64 → Int32 → Int32 → Int32 → Option (Int32 × MHp)) : Nat → MHp → Nat → Int32 → Int64 → Int32 → Int32 → Int32 → Int32 → Int32 → Option (Int32 × MHp)
  | 0, _, _, _, _, _, _, _, _, _ => none
  | n + 1, h, a0, v2, v3, v5, v6, v7, v8, v9 => (gI 17 45 h (some a0)).bind fun x25 => (gI 17 46 h (some a0)).bind fun x26 => (if (x25 + x26) ≤ v9 then k51 h a0 v2 v3 v5 v6 (v7 + 1) else (gI 17 45 h (some a0)).bind fun x27 => (if x27 ≤ v8 then mX16_leads_b98 k51 (mX16_leads_l70 k51 n) h a0 v2 v3 v5 v6 v7 v8 v9 0 else mX16_leads_b98 k51 (mX16_leads_l70 k51 n) h a0 v2 v3 v5 v6 v7 v8 v9 1))
def mX16_leads_l51 : Nat → MHp → Nat → Int32 → Int64 → Int32 → Int32 → Int32 → Option (Int32 × MHp)
  | 0, _, _, _, _, _, _, _ => none
  | n + 1, h, a0, v2, v3, v5, v6, v7 => (if v6 ≤ v7 then (gR 17 47 h (some a0)).bind fun x30 => (gAI 20 h x30 v2).bind fun x31 => (if x31 = (-1) then some (0, h) else some (1, h)) else (gR 17 48 h (some a0)).bind fun x33 => (gAI 20 h x33 v7).bind fun x34 => mX16_leads_l70 (mX16_leads_l51 n) FUEL h a0 v2 v3 v5 v6 v7 x34 0)
def mX16_leads_l3 : Nat → MHp → Nat → Int32 → Int32 → Int64 → Int32 → Int32 → Option (Int32 × MHp)
  | 0, _, _, _, _, _, _, _ => none
  | n + 1, h, a0, v1, v2, v3, v5, v6 => (gI 17 45 h (some a0)).bind fun x36 => (gI 17 46 h (some a0)).bind fun x37 => (if (x36 + x37) ≤ v6 then (gR 17 47 h (some a0)).bind fun x38 => (pAI 20 h x38 v1 v1).bind fun h39 => (gR 17 48 h39 (some a0)).bind fun x40 => (pAI 20 h39 x40 0 v1).bind fun h41 => mX16_leads_l51 FUEL h41 a0 v2 v3 v5 1 0 else (gR 17 47 h (some a0)).bind fun x42 => (pAI 20 h x42 v6 (-1)).bind fun h43 => mX16_leads_l3 n h43 a0 v1 v2 v3 v5 (v6 + 1))
def mX16_leads (h : MHp) (a0 : Nat) (a1 : Int32) (a2 : Int32) (a3 : Int64) (a4 : Int32) : Option (Int32 × MHp) := mX16_leads_l3 FUEL h a0 a1 a2 a3 a4 0
set_option maxRecDepth 100000 in
set_option maxHeartbeats 4000000 in
theorem c_X16_leads (l : Launch) (G : Env0) (h : MHp) (a0 : Nat) (a1 : Int32) (a2 : Int32) (a3 : Int64) (a4 : Int32) (res : Int32 × MHp) (hh : mX16_leads h a0 a1 a2 a3 a4 = some res) : MG l yX16_leads cX16_leads 11 (some .boolean) 1 22 0 0 G h [.ref a0, .int a1, .int a2, .long a3, .int a4] (some (.int res.1)) (res.2) := by
  refine MG_of (own := RX16) (plainFor_of_name (by decide)) rfl (Nat.le_of_ble_eq_true rfl) ?_
  intro p e s m args below meth c Q ls hQ C X hin hm hs hl hr
  have hl : lv_has ls 11 [(0, va_rf (some a0)), (1, .int a1), (2, .int a2), (3, .long a3), (5, .int a4)] := hl
  have B232 : ∀ (k51 : MHp → Nat → Int32 → Int64 → Int32 → Int32 → Int32 → Option (Int32 × MHp)), (∀ (h : MHp) (H : Heap) (locs : List Loc) (ls : Array Slot) (a0 : Nat) (v2 : Int32) (v3 : Int64) (v5 : Int32) (v6 : Int32) (v7 : Int32) , mHp (gD G) (gC G) (gB G) h H → va_S (fun q => gB G ≤ q) s.heap H locs → lv_has ls 11 [(0, va_rf (some a0)), (2, .int v2), (3, .long v3), (5, .int v5), (6, .int v6), (7, .int v7)] → k51 h a0 v2 v3 v5 v6 v7 = some res → W p l e ({ frames := 1, cells := 0, slots := 0, locals := 22 }) s m args below meth c H locs 0 0 Q (F0 m 51 ls [])) → ∀ (k70 : MHp → Nat → Int32 → Int64 → Int32 → Int32 → Int32 → Int32 → Int32 → Option (Int32 × MHp)), (∀ (h : MHp) (H : Heap) (locs : List Loc) (ls : Array Slot) (a0 : Nat) (v2 : Int32) (v3 : Int64) (v5 : Int32) (v6 : Int32) (v7 : Int32) (v8 : Int32) (v9 : Int32) , mHp (gD G) (gC G) (gB G) h H → va_S (fun q => gB G ≤ q) s.heap H locs → lv_has ls 11 [(0, va_rf (some a0)), (2, .int v2), (3, .long v3), (5, .int v5), (6, .int v6), (7, .int v7), (8, .int v8), (9, .int v9)] → k70 h a0 v2 v3 v5 v6 v7 v8 v9 = some res → W p l e ({ frames := 1, cells := 0, slots := 0, locals := 22 }) s m args below meth c H locs 0 0 Q (F0 m 70 ls [])) → ∀ (h : MHp) (H : Heap) (locs : List Loc) (ls : Array Slot) (a0 : Nat) (v2 : Int32) (v3 : Int64) (v5 : Int32) (v6 : Int32) (v7 : Int32) (v8 : Int32) (v9 : Int32) , mHp (gD G) (gC G) (gB G) h H → va_S (fun q => gB G ≤ q) s.heap H locs → lv_has ls 11 [(0, va_rf (some a0)), (2, .int v2), (3, .long v3), (5, .int v5), (6, .int v6), (7, .int v7), (8, .int v8), (9, .int v9)] → mX16_leads_b232 k51 k70 h a0 v2 v3 v5 v6 v7 v8 v9 = some res → W p l e ({ frames := 1, cells := 0, slots := 0, locals := 22 }) s m args below meth c H locs 0 0 Q (F0 m 232 ls []) := by
    intro k51 hk51 k70 hk70 h H locs ls a0 v2 v3 v5 v6 v7 v8 v9 hm hs hl hh
    unfold mX16_leads_b232 at hh
    refine lv_iinc (v := (v9 + 1)) (lv' := [(9, .int (v9 + 1)), (0, va_rf (some a0)), (2, .int v2), (3, .long v3), (5, .int v5), (6, .int v6), (7, .int v7), (8, .int v8)]) C.1 C.2.1 dX16_leads_232 hl (k := 7) rfl rfl (by decide) rfl (fun ls hl => ?_)
    refine lv_goto (tgt := 70) C.1 C.2.1 dX16_leads_235 (by decide) ?_
    exact hk70 _ _ _ _ _ _ _ _ _ _ _ _  hm hs (lv_sub hl [1, 2, 3, 4, 5, 6, 7, 0] rfl) hh
  have B211 : ∀ (k51 : MHp → Nat → Int32 → Int64 → Int32 → Int32 → Int32 → Option (Int32 × MHp)), (∀ (h : MHp) (H : Heap) (locs : List Loc) (ls : Array Slot) (a0 : Nat) (v2 : Int32) (v3 : Int64) (v5 : Int32) (v6 : Int32) (v7 : Int32) , mHp (gD G) (gC G) (gB G) h H → va_S (fun q => gB G ≤ q) s.heap H locs → lv_has ls 11 [(0, va_rf (some a0)), (2, .int v2), (3, .long v3), (5, .int v5), (6, .int v6), (7, .int v7)] → k51 h a0 v2 v3 v5 v6 v7 = some res → W p l e ({ frames := 1, cells := 0, slots := 0, locals := 22 }) s m args below meth c H locs 0 0 Q (F0 m 51 ls [])) → ∀ (k70 : MHp → Nat → Int32 → Int64 → Int32 → Int32 → Int32 → Int32 → Int32 → Option (Int32 × MHp)), (∀ (h : MHp) (H : Heap) (locs : List Loc) (ls : Array Slot) (a0 : Nat) (v2 : Int32) (v3 : Int64) (v5 : Int32) (v6 : Int32) (v7 : Int32) (v8 : Int32) (v9 : Int32) , mHp (gD G) (gC G) (gB G) h H → va_S (fun q => gB G ≤ q) s.heap H locs → lv_has ls 11 [(0, va_rf (some a0)), (2, .int v2), (3, .long v3), (5, .int v5), (6, .int v6), (7, .int v7), (8, .int v8), (9, .int v9)] → k70 h a0 v2 v3 v5 v6 v7 v8 v9 = some res → W p l e ({ frames := 1, cells := 0, slots := 0, locals := 22 }) s m args below meth c H locs 0 0 Q (F0 m 70 ls [])) → ∀ (h : MHp) (H : Heap) (locs : List Loc) (ls : Array Slot) (a0 : Nat) (v2 : Int32) (v3 : Int64) (v5 : Int32) (v6 : Int32) (v7 : Int32) (v8 : Int32) (v9 : Int32) , mHp (gD G) (gC G) (gB G) h H → va_S (fun q => gB G ≤ q) s.heap H locs → lv_has ls 11 [(0, va_rf (some a0)), (2, .int v2), (3, .long v3), (5, .int v5), (6, .int v6), (7, .int v7), (8, .int v8), (9, .int v9)] → mX16_leads_b211 k51 k70 h a0 v2 v3 v5 v6 v7 v8 v9 = some res → W p l e ({ frames := 1, cells := 0, slots := 0, locals := 22 }) s m args below meth c H locs 0 0 Q (F0 m 211 ls []) := by
    intro k51 hk51 k70 hk70 h H locs ls a0 v2 v3 v5 v6 v7 v8 v9 hm hs hl hh
    unfold mX16_leads_b211 at hh
    refine r_aload_n C.1 C.2.1 dX16_leads_211 rfl (lv_at hl 0 rfl) ?_
    refine r_getR C hm flX16_100 dX16_leads_212 hh (fun x1 _ hh => ?_)
    refine lv_iload C.1 C.2.1 dX16_leads_215 (lv_at hl 7 rfl) ?_
    refine lv_iload C.1 C.2.1 dX16_leads_217 (lv_at hl 6 rfl) ?_
    refine r_ast C hm hs dX16_leads_219 hh (fun h2 H locs _ hh hm hs => ?_)
    refine r_aload_n C.1 C.2.1 dX16_leads_220 rfl (lv_at hl 0 rfl) ?_
    refine r_getR C hm flX16_103 dX16_leads_221 hh (fun x3 _ hh => ?_)
    refine lv_iload C.1 C.2.1 dX16_leads_224 (lv_at hl 4 rfl) ?_
    refine lv_iload C.1 C.2.1 dX16_leads_226 (lv_at hl 7 rfl) ?_
    refine r_ast C hm hs dX16_leads_228 hh (fun h4 H locs _ hh hm hs => ?_)
    refine lv_iinc (v := (v6 + 1)) (lv' := [(6, .int (v6 + 1)), (0, va_rf (some a0)), (2, .int v2), (3, .long v3), (5, .int v5), (7, .int v7), (8, .int v8), (9, .int v9)]) C.1 C.2.1 dX16_leads_229 hl (k := 4) rfl rfl (by decide) rfl (fun ls hl => ?_)
    exact B232 _ hk51 _ hk70 _ _ _ _ _ _ _ _ _ _ _ _  hm hs (lv_sub hl [1, 2, 3, 4, 0, 5, 6, 7] rfl) hh
  have B171 : ∀ (k51 : MHp → Nat → Int32 → Int64 → Int32 → Int32 → Int32 → Option (Int32 × MHp)), (∀ (h : MHp) (H : Heap) (locs : List Loc) (ls : Array Slot) (a0 : Nat) (v2 : Int32) (v3 : Int64) (v5 : Int32) (v6 : Int32) (v7 : Int32) , mHp (gD G) (gC G) (gB G) h H → va_S (fun q => gB G ≤ q) s.heap H locs → lv_has ls 11 [(0, va_rf (some a0)), (2, .int v2), (3, .long v3), (5, .int v5), (6, .int v6), (7, .int v7)] → k51 h a0 v2 v3 v5 v6 v7 = some res → W p l e ({ frames := 1, cells := 0, slots := 0, locals := 22 }) s m args below meth c H locs 0 0 Q (F0 m 51 ls [])) → ∀ (k70 : MHp → Nat → Int32 → Int64 → Int32 → Int32 → Int32 → Int32 → Int32 → Option (Int32 × MHp)), (∀ (h : MHp) (H : Heap) (locs : List Loc) (ls : Array Slot) (a0 : Nat) (v2 : Int32) (v3 : Int64) (v5 : Int32) (v6 : Int32) (v7 : Int32) (v8 : Int32) (v9 : Int32) , mHp (gD G) (gC G) (gB G) h H → va_S (fun q => gB G ≤ q) s.heap H locs → lv_has ls 11 [(0, va_rf (some a0)), (2, .int v2), (3, .long v3), (5, .int v5), (6, .int v6), (7, .int v7), (8, .int v8), (9, .int v9)] → k70 h a0 v2 v3 v5 v6 v7 v8 v9 = some res → W p l e ({ frames := 1, cells := 0, slots := 0, locals := 22 }) s m args below meth c H locs 0 0 Q (F0 m 70 ls [])) → ∀ (h : MHp) (H : Heap) (locs : List Loc) (ls : Array Slot) (a0 : Nat) (v2 : Int32) (v3 : Int64) (v5 : Int32) (v6 : Int32) (v7 : Int32) (v8 : Int32) (v9 : Int32) (t0 : Int32) , mHp (gD G) (gC G) (gB G) h H → va_S (fun q => gB G ≤ q) s.heap H locs → lv_has ls 11 [(0, va_rf (some a0)), (2, .int v2), (3, .long v3), (5, .int v5), (6, .int v6), (7, .int v7), (8, .int v8), (9, .int v9)] → mX16_leads_b171 k51 k70 h a0 v2 v3 v5 v6 v7 v8 v9 t0 = some res → W p l e ({ frames := 1, cells := 0, slots := 0, locals := 22 }) s m args below meth c H locs 0 0 Q (F0 m 171 ls [.int t0]) := by
    intro k51 hk51 k70 hk70 h H locs ls a0 v2 v3 v5 v6 v7 v8 v9 t0 hm hs hl hh
    unfold mX16_leads_b171 at hh
    refine lv_istore (i := 10) (lv' := [(10, .int t0), (0, va_rf (some a0)), (2, .int v2), (3, .long v3), (5, .int v5), (6, .int v6), (7, .int v7), (8, .int v8), (9, .int v9)]) C.1 C.2.1 dX16_leads_171 hl (by decide) rfl (fun ls hl => ?_)
    refine lv_iload C.1 C.2.1 dX16_leads_173 (lv_at hl 0 rfl) ?_
    refine lv_iload C.1 C.2.1 dX16_leads_175 (lv_at hl 4 rfl) ?_
    refine lv_icmp_eq (tgt := 232) C.1 C.2.1 dX16_leads_177 (by decide) (fun c12 => ?_) (fun c12 => ?_)
    · rw [if_pos c12] at hh
      exact B232 _ hk51 _ hk70 _ _ _ _ _ _ _ _ _ _ _ _  hm hs (lv_sub hl [1, 2, 3, 4, 5, 6, 7, 8] rfl) hh
    · rw [if_neg c12] at hh
      refine lv_lload_n C.1 C.2.1 dX16_leads_180 rfl (lv_at hl 3 rfl) ?_
      refine lv_iload C.1 C.2.1 dX16_leads_181 (lv_at hl 0 rfl) ?_
      refine r_cS C X hm hs mlX16_444 msX16_444 hh (vv := fun r => some (.int r)) (hp := fun r => h) (fun r hg => c_X16_has l G h _ _ r hg) rfl rfl (Nat.le_of_ble_eq_true rfl) (Nat.le_of_ble_eq_true rfl) (Nat.le_of_ble_eq_true rfl) hl.1 dX16_leads_183 (fun r5 H locs hgr5 hh hm hs => ?_)
      refine W.eq (g2 := F0 m 186 ls [.int r5]) rfl ?_
      refine lv_if_eq (tgt := 232) C.1 C.2.1 dX16_leads_186 (by decide) (fun c11 => ?_) (fun c11 => ?_)
      · rw [if_pos c11] at hh
        exact B232 _ hk51 _ hk70 _ _ _ _ _ _ _ _ _ _ _ _  hm hs (lv_sub hl [1, 2, 3, 4, 5, 6, 7, 8] rfl) hh
      · rw [if_neg c11] at hh
        refine lv_iload C.1 C.2.1 dX16_leads_189 (lv_at hl 7 rfl) ?_
        refine r_aload_n C.1 C.2.1 dX16_leads_191 rfl (lv_at hl 1 rfl) ?_
        refine r_getI C hm flX16_427 dX16_leads_192 hh (fun x6 _ hh => ?_)
        refine lv_icmp_lt (tgt := 211) C.1 C.2.1 dX16_leads_195 (by decide) (fun c10 => ?_) (fun c10 => ?_)
        · rw [if_pos c10] at hh
          exact B211 _ hk51 _ hk70 _ _ _ _ _ _ _ _ _ _ _ _  hm hs (lv_sub hl [1, 2, 3, 4, 5, 6, 7, 8] rfl) hh
        · rw [if_neg c10] at hh
          refine r_aload_n C.1 C.2.1 dX16_leads_198 rfl (lv_at hl 1 rfl) ?_
          refine r_getR C hm flX16_97 dX16_leads_199 hh (fun x7 _ hh => ?_)
          refine lv_iload C.1 C.2.1 dX16_leads_202 (lv_at hl 0 rfl) ?_
          refine r_ald C hm dX16_leads_204 hh (fun x8 _ hh => ?_)
          refine lv_if_ne (tgt := 211) C.1 C.2.1 dX16_leads_205 (by decide) (fun c9 => ?_) (fun c9 => ?_)
          · rw [if_neg c9] at hh
            exact B211 _ hk51 _ hk70 _ _ _ _ _ _ _ _ _ _ _ _  hm hs (lv_sub hl [1, 2, 3, 4, 5, 6, 7, 8] rfl) hh
          · rw [if_pos c9] at hh
            refine lv_goto (tgt := 232) C.1 C.2.1 dX16_leads_208 (by decide) ?_
            exact B232 _ hk51 _ hk70 _ _ _ _ _ _ _ _ _ _ _ _  hm hs (lv_sub hl [1, 2, 3, 4, 5, 6, 7, 8] rfl) hh
  have B112 : ∀ (k51 : MHp → Nat → Int32 → Int64 → Int32 → Int32 → Int32 → Option (Int32 × MHp)), (∀ (h : MHp) (H : Heap) (locs : List Loc) (ls : Array Slot) (a0 : Nat) (v2 : Int32) (v3 : Int64) (v5 : Int32) (v6 : Int32) (v7 : Int32) , mHp (gD G) (gC G) (gB G) h H → va_S (fun q => gB G ≤ q) s.heap H locs → lv_has ls 11 [(0, va_rf (some a0)), (2, .int v2), (3, .long v3), (5, .int v5), (6, .int v6), (7, .int v7)] → k51 h a0 v2 v3 v5 v6 v7 = some res → W p l e ({ frames := 1, cells := 0, slots := 0, locals := 22 }) s m args below meth c H locs 0 0 Q (F0 m 51 ls [])) → ∀ (k70 : MHp → Nat → Int32 → Int64 → Int32 → Int32 → Int32 → Int32 → Int32 → Option (Int32 × MHp)), (∀ (h : MHp) (H : Heap) (locs : List Loc) (ls : Array Slot) (a0 : Nat) (v2 : Int32) (v3 : Int64) (v5 : Int32) (v6 : Int32) (v7 : Int32) (v8 : Int32) (v9 : Int32) , mHp (gD G) (gC G) (gB G) h H → va_S (fun q => gB G ≤ q) s.heap H locs → lv_has ls 11 [(0, va_rf (some a0)), (2, .int v2), (3, .long v3), (5, .int v5), (6, .int v6), (7, .int v7), (8, .int v8), (9, .int v9)] → k70 h a0 v2 v3 v5 v6 v7 v8 v9 = some res → W p l e ({ frames := 1, cells := 0, slots := 0, locals := 22 }) s m args below meth c H locs 0 0 Q (F0 m 70 ls [])) → ∀ (h : MHp) (H : Heap) (locs : List Loc) (ls : Array Slot) (a0 : Nat) (v2 : Int32) (v3 : Int64) (v5 : Int32) (v6 : Int32) (v7 : Int32) (v8 : Int32) (v9 : Int32) (t0 : Int32) (t1 : Int32) , mHp (gD G) (gC G) (gB G) h H → va_S (fun q => gB G ≤ q) s.heap H locs → lv_has ls 11 [(0, va_rf (some a0)), (2, .int v2), (3, .long v3), (5, .int v5), (6, .int v6), (7, .int v7), (8, .int v8), (9, .int v9)] → mX16_leads_b112 k51 k70 h a0 v2 v3 v5 v6 v7 v8 v9 t0 t1 = some res → W p l e ({ frames := 1, cells := 0, slots := 0, locals := 22 }) s m args below meth c H locs 0 0 Q (F0 m 112 ls [.int t1, .int t0]) := by
    intro k51 hk51 k70 hk70 h H locs ls a0 v2 v3 v5 v6 v7 v8 v9 t0 t1 hm hs hl hh
    unfold mX16_leads_b112 at hh
    refine lv_icmp_eq (tgt := 232) C.1 C.2.1 dX16_leads_112 (by decide) (fun c22 => ?_) (fun c22 => ?_)
    · rw [if_pos c22] at hh
      exact B232 _ hk51 _ hk70 _ _ _ _ _ _ _ _ _ _ _ _  hm hs (lv_sub hl [0, 1, 2, 3, 4, 5, 6, 7] rfl) hh
    · rw [if_neg c22] at hh
      refine r_aload_n C.1 C.2.1 dX16_leads_115 rfl (lv_at hl 0 rfl) ?_
      refine r_getR C hm flX16_100 dX16_leads_116 hh (fun x13 _ hh => ?_)
      refine lv_iload C.1 C.2.1 dX16_leads_119 (lv_at hl 7 rfl) ?_
      refine r_ald C hm dX16_leads_121 hh (fun x14 _ hh => ?_)
      refine lv_iconst (v := (-1)) C.1 C.2.1 dX16_leads_122 (by decide) ?_
      refine lv_icmp_eq (tgt := 129) C.1 C.2.1 dX16_leads_123 (by decide) (fun c21 => ?_) (fun c21 => ?_)
      · rw [if_pos c21] at hh
        refine lv_iload C.1 C.2.1 dX16_leads_129 (lv_at hl 6 rfl) ?_
        refine r_aload_n C.1 C.2.1 dX16_leads_131 rfl (lv_at hl 0 rfl) ?_
        refine r_getI C hm flX16_427 dX16_leads_132 hh (fun x15 _ hh => ?_)
        refine lv_icmp_ge (tgt := 156) C.1 C.2.1 dX16_leads_135 (by decide) (fun c20 => ?_) (fun c20 => ?_)
        · rw [if_pos c20] at hh
          refine r_aload_n C.1 C.2.1 dX16_leads_156 rfl (lv_at hl 0 rfl) ?_
          refine r_getI C hm flX16_430 dX16_leads_157 hh (fun x16 _ hh => ?_)
          refine lv_iload C.1 C.2.1 dX16_leads_160 (lv_at hl 7 rfl) ?_
          refine lv_imul C.1 C.2.1 dX16_leads_162 ?_
          refine lv_iload C.1 C.2.1 dX16_leads_163 (lv_at hl 6 rfl) ?_
          refine lv_iadd C.1 C.2.1 dX16_leads_165 ?_
          refine r_aload_n C.1 C.2.1 dX16_leads_166 rfl (lv_at hl 0 rfl) ?_
          refine r_getI C hm flX16_427 dX16_leads_167 hh (fun x17 _ hh => ?_)
          refine lv_isub C.1 C.2.1 dX16_leads_170 ?_
          exact B171 _ hk51 _ hk70 _ _ _ _ _ _ _ _ _ _ _ _ _  hm hs (lv_sub hl [0, 1, 2, 3, 4, 5, 6, 7] rfl) hh
        · rw [if_neg c20] at hh
          refine r_aload_n C.1 C.2.1 dX16_leads_138 rfl (lv_at hl 0 rfl) ?_
          refine r_getI C hm flX16_430 dX16_leads_139 hh (fun x18 _ hh => ?_)
          refine lv_iload C.1 C.2.1 dX16_leads_142 (lv_at hl 6 rfl) ?_
          refine lv_imul C.1 C.2.1 dX16_leads_144 ?_
          refine lv_iload C.1 C.2.1 dX16_leads_145 (lv_at hl 7 rfl) ?_
          refine lv_iadd C.1 C.2.1 dX16_leads_147 ?_
          refine r_aload_n C.1 C.2.1 dX16_leads_148 rfl (lv_at hl 0 rfl) ?_
          refine r_getI C hm flX16_427 dX16_leads_149 hh (fun x19 _ hh => ?_)
          refine lv_isub C.1 C.2.1 dX16_leads_152 ?_
          refine lv_goto (tgt := 171) C.1 C.2.1 dX16_leads_153 (by decide) ?_
          exact B171 _ hk51 _ hk70 _ _ _ _ _ _ _ _ _ _ _ _ _  hm hs (lv_sub hl [0, 1, 2, 3, 4, 5, 6, 7] rfl) hh
      · rw [if_neg c21] at hh
        refine lv_goto (tgt := 232) C.1 C.2.1 dX16_leads_126 (by decide) ?_
        exact B232 _ hk51 _ hk70 _ _ _ _ _ _ _ _ _ _ _ _  hm hs (lv_sub hl [0, 1, 2, 3, 4, 5, 6, 7] rfl) hh
  have B98 : ∀ (k51 : MHp → Nat → Int32 → Int64 → Int32 → Int32 → Int32 → Option (Int32 × MHp)), (∀ (h : MHp) (H : Heap) (locs : List Loc) (ls : Array Slot) (a0 : Nat) (v2 : Int32) (v3 : Int64) (v5 : Int32) (v6 : Int32) (v7 : Int32) , mHp (gD G) (gC G) (gB G) h H → va_S (fun q => gB G ≤ q) s.heap H locs → lv_has ls 11 [(0, va_rf (some a0)), (2, .int v2), (3, .long v3), (5, .int v5), (6, .int v6), (7, .int v7)] → k51 h a0 v2 v3 v5 v6 v7 = some res → W p l e ({ frames := 1, cells := 0, slots := 0, locals := 22 }) s m args below meth c H locs 0 0 Q (F0 m 51 ls [])) → ∀ (k70 : MHp → Nat → Int32 → Int64 → Int32 → Int32 → Int32 → Int32 → Int32 → Option (Int32 × MHp)), (∀ (h : MHp) (H : Heap) (locs : List Loc) (ls : Array Slot) (a0 : Nat) (v2 : Int32) (v3 : Int64) (v5 : Int32) (v6 : Int32) (v7 : Int32) (v8 : Int32) (v9 : Int32) , mHp (gD G) (gC G) (gB G) h H → va_S (fun q => gB G ≤ q) s.heap H locs → lv_has ls 11 [(0, va_rf (some a0)), (2, .int v2), (3, .long v3), (5, .int v5), (6, .int v6), (7, .int v7), (8, .int v8), (9, .int v9)] → k70 h a0 v2 v3 v5 v6 v7 v8 v9 = some res → W p l e ({ frames := 1, cells := 0, slots := 0, locals := 22 }) s m args below meth c H locs 0 0 Q (F0 m 70 ls [])) → ∀ (h : MHp) (H : Heap) (locs : List Loc) (ls : Array Slot) (a0 : Nat) (v2 : Int32) (v3 : Int64) (v5 : Int32) (v6 : Int32) (v7 : Int32) (v8 : Int32) (v9 : Int32) (t0 : Int32) , mHp (gD G) (gC G) (gB G) h H → va_S (fun q => gB G ≤ q) s.heap H locs → lv_has ls 11 [(0, va_rf (some a0)), (2, .int v2), (3, .long v3), (5, .int v5), (6, .int v6), (7, .int v7), (8, .int v8), (9, .int v9)] → mX16_leads_b98 k51 k70 h a0 v2 v3 v5 v6 v7 v8 v9 t0 = some res → W p l e ({ frames := 1, cells := 0, slots := 0, locals := 22 }) s m args below meth c H locs 0 0 Q (F0 m 98 ls [.int t0]) := by
    intro k51 hk51 k70 hk70 h H locs ls a0 v2 v3 v5 v6 v7 v8 v9 t0 hm hs hl hh
    unfold mX16_leads_b98 at hh
    refine lv_iload C.1 C.2.1 dX16_leads_98 (lv_at hl 7 rfl) ?_
    refine r_aload_n C.1 C.2.1 dX16_leads_100 rfl (lv_at hl 0 rfl) ?_
    refine r_getI C hm flX16_427 dX16_leads_101 hh (fun x23 _ hh => ?_)
    refine lv_icmp_ge (tgt := 111) C.1 C.2.1 dX16_leads_104 (by decide) (fun c24 => ?_) (fun c24 => ?_)
    · rw [if_pos c24] at hh
      refine lv_iconst (v := 0) C.1 C.2.1 dX16_leads_111 (by decide) ?_
      exact B112 _ hk51 _ hk70 _ _ _ _ _ _ _ _ _ _ _ _ _ _  hm hs (lv_sub hl [0, 1, 2, 3, 4, 5, 6, 7] rfl) hh
    · rw [if_neg c24] at hh
      refine lv_iconst (v := 1) C.1 C.2.1 dX16_leads_107 (by decide) ?_
      refine lv_goto (tgt := 112) C.1 C.2.1 dX16_leads_108 (by decide) ?_
      exact B112 _ hk51 _ hk70 _ _ _ _ _ _ _ _ _ _ _ _ _ _  hm hs (lv_sub hl [0, 1, 2, 3, 4, 5, 6, 7] rfl) hh
  have B70 : ∀ (k51 : MHp → Nat → Int32 → Int64 → Int32 → Int32 → Int32 → Option (Int32 × MHp)), (∀ (h : MHp) (H : Heap) (locs : List Loc) (ls : Array Slot) (a0 : Nat) (v2 : Int32) (v3 : Int64) (v5 : Int32) (v6 : Int32) (v7 : Int32) , mHp (gD G) (gC G) (gB G) h H → va_S (fun q => gB G ≤ q) s.heap H locs → lv_has ls 11 [(0, va_rf (some a0)), (2, .int v2), (3, .long v3), (5, .int v5), (6, .int v6), (7, .int v7)] → k51 h a0 v2 v3 v5 v6 v7 = some res → W p l e ({ frames := 1, cells := 0, slots := 0, locals := 22 }) s m args below meth c H locs 0 0 Q (F0 m 51 ls [])) → ∀ n : Nat, ∀ (h : MHp) (H : Heap) (locs : List Loc) (ls : Array Slot) (a0 : Nat) (v2 : Int32) (v3 : Int64) (v5 : Int32) (v6 : Int32) (v7 : Int32) (v8 : Int32) (v9 : Int32) , mHp (gD G) (gC G) (gB G) h H → va_S (fun q => gB G ≤ q) s.heap H locs → lv_has ls 11 [(0, va_rf (some a0)), (2, .int v2), (3, .long v3), (5, .int v5), (6, .int v6), (7, .int v7), (8, .int v8), (9, .int v9)] → mX16_leads_l70 k51 n h a0 v2 v3 v5 v6 v7 v8 v9 = some res → W p l e ({ frames := 1, cells := 0, slots := 0, locals := 22 }) s m args below meth c H locs 0 0 Q (F0 m 70 ls []) := by
    intro k51 hk51 n
    induction n with
    | zero => intro h H locs ls a0 v2 v3 v5 v6 v7 v8 v9 hm hs hl hh; cases hh
    | succ n ih =>
      intro h H locs ls a0 v2 v3 v5 v6 v7 v8 v9 hm hs hl hh
      unfold mX16_leads_l70 at hh
      refine lv_iload C.1 C.2.1 dX16_leads_70 (lv_at hl 7 rfl) ?_
      refine r_aload_n C.1 C.2.1 dX16_leads_72 rfl (lv_at hl 0 rfl) ?_
      refine r_getI C hm flX16_427 dX16_leads_73 hh (fun x25 _ hh => ?_)
      refine r_aload_n C.1 C.2.1 dX16_leads_76 rfl (lv_at hl 0 rfl) ?_
      refine r_getI C hm flX16_430 dX16_leads_77 hh (fun x26 _ hh => ?_)
      refine lv_iadd C.1 C.2.1 dX16_leads_80 ?_
      refine lv_icmp_ge (tgt := 238) C.1 C.2.1 dX16_leads_81 (by decide) (fun c29 => ?_) (fun c29 => ?_)
      · rw [if_pos c29] at hh
        refine lv_iinc (v := (v7 + 1)) (lv' := [(7, .int (v7 + 1)), (0, va_rf (some a0)), (2, .int v2), (3, .long v3), (5, .int v5), (6, .int v6), (8, .int v8), (9, .int v9)]) C.1 C.2.1 dX16_leads_238 hl (k := 5) rfl rfl (by decide) rfl (fun ls hl => ?_)
        refine lv_goto (tgt := 51) C.1 C.2.1 dX16_leads_241 (by decide) ?_
        exact hk51 _ _ _ _ _ _ _ _ _ _  hm hs (lv_sub hl [1, 2, 3, 4, 5, 0] rfl) hh
      · rw [if_neg c29] at hh
        refine lv_iload C.1 C.2.1 dX16_leads_84 (lv_at hl 6 rfl) ?_
        refine r_aload_n C.1 C.2.1 dX16_leads_86 rfl (lv_at hl 0 rfl) ?_
        refine r_getI C hm flX16_427 dX16_leads_87 hh (fun x27 _ hh => ?_)
        refine lv_icmp_ge (tgt := 97) C.1 C.2.1 dX16_leads_90 (by decide) (fun c28 => ?_) (fun c28 => ?_)
        · rw [if_pos c28] at hh
          refine lv_iconst (v := 0) C.1 C.2.1 dX16_leads_97 (by decide) ?_
          exact B98 _ hk51 _ ih _ _ _ _ _ _ _ _ _ _ _ _ _  hm hs (lv_sub hl [0, 1, 2, 3, 4, 5, 6, 7] rfl) hh
        · rw [if_neg c28] at hh
          refine lv_iconst (v := 1) C.1 C.2.1 dX16_leads_93 (by decide) ?_
          refine lv_goto (tgt := 98) C.1 C.2.1 dX16_leads_94 (by decide) ?_
          exact B98 _ hk51 _ ih _ _ _ _ _ _ _ _ _ _ _ _ _  hm hs (lv_sub hl [0, 1, 2, 3, 4, 5, 6, 7] rfl) hh
  have B51 : ∀ n : Nat, ∀ (h : MHp) (H : Heap) (locs : List Loc) (ls : Array Slot) (a0 : Nat) (v2 : Int32) (v3 : Int64) (v5 : Int32) (v6 : Int32) (v7 : Int32) , mHp (gD G) (gC G) (gB G) h H → va_S (fun q => gB G ≤ q) s.heap H locs → lv_has ls 11 [(0, va_rf (some a0)), (2, .int v2), (3, .long v3), (5, .int v5), (6, .int v6), (7, .int v7)] → mX16_leads_l51 n h a0 v2 v3 v5 v6 v7 = some res → W p l e ({ frames := 1, cells := 0, slots := 0, locals := 22 }) s m args below meth c H locs 0 0 Q (F0 m 51 ls []) := by
    intro n
    induction n with
    | zero => intro h H locs ls a0 v2 v3 v5 v6 v7 hm hs hl hh; cases hh
    | succ n ih =>
      intro h H locs ls a0 v2 v3 v5 v6 v7 hm hs hl hh
      unfold mX16_leads_l51 at hh
      refine lv_iload C.1 C.2.1 dX16_leads_51 (lv_at hl 5 rfl) ?_
      refine lv_iload C.1 C.2.1 dX16_leads_53 (lv_at hl 4 rfl) ?_
      refine lv_icmp_ge (tgt := 244) C.1 C.2.1 dX16_leads_55 (by decide) (fun c35 => ?_) (fun c35 => ?_)
      · rw [if_pos c35] at hh
        refine r_aload_n C.1 C.2.1 dX16_leads_244 rfl (lv_at hl 0 rfl) ?_
        refine r_getR C hm flX16_100 dX16_leads_245 hh (fun x30 _ hh => ?_)
        refine lv_iload_n C.1 C.2.1 dX16_leads_248 rfl (lv_at hl 1 rfl) ?_
        refine r_ald C hm dX16_leads_249 hh (fun x31 _ hh => ?_)
        refine lv_iconst (v := (-1)) C.1 C.2.1 dX16_leads_250 (by decide) ?_
        refine lv_icmp_eq (tgt := 258) C.1 C.2.1 dX16_leads_251 (by decide) (fun c32 => ?_) (fun c32 => ?_)
        · rw [if_pos c32] at hh
          refine lv_iconst (v := 0) C.1 C.2.1 dX16_leads_258 (by decide) ?_
          exact r_bretW hQ C hr hm hs (by decide) hh dX16_leads_259
        · rw [if_neg c32] at hh
          refine lv_iconst (v := 1) C.1 C.2.1 dX16_leads_254 (by decide) ?_
          refine lv_goto (tgt := 259) C.1 C.2.1 dX16_leads_255 (by decide) ?_
          exact r_bretW hQ C hr hm hs (by decide) hh dX16_leads_259
      · rw [if_neg c35] at hh
        refine r_aload_n C.1 C.2.1 dX16_leads_58 rfl (lv_at hl 0 rfl) ?_
        refine r_getR C hm flX16_103 dX16_leads_59 hh (fun x33 _ hh => ?_)
        refine lv_iload C.1 C.2.1 dX16_leads_62 (lv_at hl 5 rfl) ?_
        refine r_ald C hm dX16_leads_64 hh (fun x34 _ hh => ?_)
        refine lv_istore (i := 8) (lv' := [(8, .int x34), (0, va_rf (some a0)), (2, .int v2), (3, .long v3), (5, .int v5), (6, .int v6), (7, .int v7)]) C.1 C.2.1 dX16_leads_65 hl (by decide) rfl (fun ls hl => ?_)
        refine lv_iconst (v := 0) C.1 C.2.1 dX16_leads_67 (by decide) ?_
        refine lv_istore (i := 9) (lv' := [(9, .int 0), (8, .int x34), (0, va_rf (some a0)), (2, .int v2), (3, .long v3), (5, .int v5), (6, .int v6), (7, .int v7)]) C.1 C.2.1 dX16_leads_68 hl (by decide) rfl (fun ls hl => ?_)
        exact B70 _ ih FUEL _ _ _ _ _ _ _ _ _ _ _ _  hm hs (lv_sub hl [2, 3, 4, 5, 6, 7, 1, 0] rfl) hh
  have B3 : ∀ n : Nat, ∀ (h : MHp) (H : Heap) (locs : List Loc) (ls : Array Slot) (a0 : Nat) (v1 : Int32) (v2 : Int32) (v3 : Int64) (v5 : Int32) (v6 : Int32) , mHp (gD G) (gC G) (gB G) h H → va_S (fun q => gB G ≤ q) s.heap H locs → lv_has ls 11 [(0, va_rf (some a0)), (1, .int v1), (2, .int v2), (3, .long v3), (5, .int v5), (6, .int v6)] → mX16_leads_l3 n h a0 v1 v2 v3 v5 v6 = some res → W p l e ({ frames := 1, cells := 0, slots := 0, locals := 22 }) s m args below meth c H locs 0 0 Q (F0 m 3 ls []) := by
    intro n
    induction n with
    | zero => intro h H locs ls a0 v1 v2 v3 v5 v6 hm hs hl hh; cases hh
    | succ n ih =>
      intro h H locs ls a0 v1 v2 v3 v5 v6 hm hs hl hh
      unfold mX16_leads_l3 at hh
      refine lv_iload C.1 C.2.1 dX16_leads_3 (lv_at hl 5 rfl) ?_
      refine r_aload_n C.1 C.2.1 dX16_leads_5 rfl (lv_at hl 0 rfl) ?_
      refine r_getI C hm flX16_427 dX16_leads_6 hh (fun x36 _ hh => ?_)
      refine r_aload_n C.1 C.2.1 dX16_leads_9 rfl (lv_at hl 0 rfl) ?_
      refine r_getI C hm flX16_430 dX16_leads_10 hh (fun x37 _ hh => ?_)
      refine lv_iadd C.1 C.2.1 dX16_leads_13 ?_
      refine lv_icmp_ge (tgt := 31) C.1 C.2.1 dX16_leads_14 (by decide) (fun c44 => ?_) (fun c44 => ?_)
      · rw [if_pos c44] at hh
        refine r_aload_n C.1 C.2.1 dX16_leads_31 rfl (lv_at hl 0 rfl) ?_
        refine r_getR C hm flX16_100 dX16_leads_32 hh (fun x38 _ hh => ?_)
        refine lv_iload_n C.1 C.2.1 dX16_leads_35 rfl (lv_at hl 1 rfl) ?_
        refine lv_iload_n C.1 C.2.1 dX16_leads_36 rfl (lv_at hl 1 rfl) ?_
        refine r_ast C hm hs dX16_leads_37 hh (fun h39 H locs _ hh hm hs => ?_)
        refine r_aload_n C.1 C.2.1 dX16_leads_38 rfl (lv_at hl 0 rfl) ?_
        refine r_getR C hm flX16_103 dX16_leads_39 hh (fun x40 _ hh => ?_)
        refine lv_iconst (v := 0) C.1 C.2.1 dX16_leads_42 (by decide) ?_
        refine lv_iload_n C.1 C.2.1 dX16_leads_43 rfl (lv_at hl 1 rfl) ?_
        refine r_ast C hm hs dX16_leads_44 hh (fun h41 H locs _ hh hm hs => ?_)
        refine lv_iconst (v := 1) C.1 C.2.1 dX16_leads_45 (by decide) ?_
        refine lv_istore (i := 6) (lv' := [(6, .int 1), (0, va_rf (some a0)), (1, .int v1), (2, .int v2), (3, .long v3), (5, .int v5)]) C.1 C.2.1 dX16_leads_46 hl (by decide) rfl (fun ls hl => ?_)
        refine lv_iconst (v := 0) C.1 C.2.1 dX16_leads_48 (by decide) ?_
        refine lv_istore (i := 7) (lv' := [(7, .int 0), (6, .int 1), (0, va_rf (some a0)), (1, .int v1), (2, .int v2), (3, .long v3), (5, .int v5)]) C.1 C.2.1 dX16_leads_49 hl (by decide) rfl (fun ls hl => ?_)
        exact B51 FUEL _ _ _ _ _ _ _ _ _ _  hm hs (lv_sub hl [2, 4, 5, 6, 1, 0] rfl) hh
      · rw [if_neg c44] at hh
        refine r_aload_n C.1 C.2.1 dX16_leads_17 rfl (lv_at hl 0 rfl) ?_
        refine r_getR C hm flX16_100 dX16_leads_18 hh (fun x42 _ hh => ?_)
        refine lv_iload C.1 C.2.1 dX16_leads_21 (lv_at hl 5 rfl) ?_
        refine lv_iconst (v := (-1)) C.1 C.2.1 dX16_leads_23 (by decide) ?_
        refine r_ast C hm hs dX16_leads_24 hh (fun h43 H locs _ hh hm hs => ?_)
        refine lv_iinc (v := (v6 + 1)) (lv' := [(6, .int (v6 + 1)), (0, va_rf (some a0)), (1, .int v1), (2, .int v2), (3, .long v3), (5, .int v5)]) C.1 C.2.1 dX16_leads_25 hl (k := 5) rfl rfl (by decide) rfl (fun ls hl => ?_)
        refine lv_goto (tgt := 3) C.1 C.2.1 dX16_leads_28 (by decide) ?_
        exact ih _ _ _ _ _ _ _ _ _ _  hm hs (lv_sub hl [1, 2, 3, 4, 5, 0] rfl) hh
  unfold mX16_leads at hh
  refine lv_iconst (v := 0) C.1 C.2.1 dX16_leads_0 (by decide) ?_
  refine lv_istore (i := 6) (lv' := [(6, .int 0), (0, va_rf (some a0)), (1, .int a1), (2, .int a2), (3, .long a3), (5, .int a4)]) C.1 C.2.1 dX16_leads_1 hl (by decide) rfl (fun ls hl => ?_)
  exact B3 FUEL _ _ _ _ _ _ _ _ _ _  hm hs (lv_sub hl [1, 2, 3, 4, 5, 0] rfl) hh
def mX16_goes_b137 (k40 : MHp → Nat → Int32 → Int32 → Int64 → Int32 → Int32 → Int32 → Option (Int32 × MHp)) (k62 : MHp → Nat → Int32 → Int32 → Int64 → Int32 → Int32 → Int32 → Int32 → Option (Int32 × MHp)) (h : MHp) (a0 : Nat) (v1 : Int32) (v2 : Int32) (v3 : Int64) (v5 : Int32) (v6 : Int32) (v7 : Int32) (v8 : Int32) : Option (Int32 × MHp) := (gR 17 47 h (some a0)).bind fun x1 => (gAI 20 h x1 v8).bind fun x2 => k62 h a0 v1 v2 v3 v5 v6 v7 x2
def mX16_goes_l62 (k40 : MHp → Nat → Int32 → Int32 → Int64 → Int32 → Int32 → Int32 → Option (Int32 × MHp)) : Nat → MHp → Nat → Int32 → Int32 → Int64 → Int32 → Int32 → Int32 → Int32 → Option (Int32 × MHp)
  | 0, _, _, _, _, _, _, _, _, _ => none
  | n + 1, h, a0, v1, v2, v3, v5, v6, v7, v8 => (if v8 = v1 then k40 h a0 v1 v2 v3 v5 v6 (v7 + 1) else (gR 17 47 h (some a0)).bind fun x3 => (gAI 20 h x3 v8).bind fun x4 => (gI 17 45 h (some a0)).bind fun x5 => (if x5 ≤ x4 then (gR 17 44 h (some a0)).bind fun x6 => (gI 17 46 h (some a0)).bind fun x7 => (gI 17 45 h (some a0)).bind fun x8 => (gAI 20 h x6 (((x7 * v8) + x4) - x8)).bind fun x9 => (pAI 20 h x6 (((x7 * v8) + x4) - x8) (x9 - 1)).bind fun h10 => mX16_goes_b137 k40 (mX16_goes_l62 k40 n) h10 a0 v1 v2 v3 v5 v6 v7 v8 else (gR 17 44 h (some a0)).bind fun x11 => (gI 17 46 h (some a0)).bind fun x12 => (gI 17 45 h (some a0)).bind fun x13 => (gAI 20 h x11 (((x12 * x4) + v8) - x13)).bind fun x14 => (pAI 20 h x11 (((x12 * x4) + v8) - x13) (x14 + 1)).bind fun h15 => mX16_goes_b137 k40 (mX16_goes_l62 k40 n) h15 a0 v1 v2 v3 v5 v6 v7 v8))
def mX16_goes_l40 : Nat → MHp → Nat → Int32 → Int32 → Int64 → Int32 → Int32 → Int32 → Option (Int32 × MHp)
  | 0, _, _, _, _, _, _, _, _ => none
  | n + 1, h, a0, v1, v2, v3, v5, v6, v7 => (if v6 ≤ v7 then some (v7, h) else (rcv 17 h (some a0)).bind fun b19 => (mX16_leads h b19 v1 v2 v3 v5).bind fun r18 => (if r18.1 = 0 then some (v7, r18.2) else mX16_goes_l62 (mX16_goes_l40 n) FUEL r18.2 a0 v1 v2 v3 v5 v6 v7 v2))
def mX16_goes_l3 : Nat → MHp → Nat → Int32 → Int32 → Int64 → Int32 → Int32 → Int32 → Option (Int32 × MHp)
  | 0, _, _, _, _, _, _, _, _ => none
  | n + 1, h, a0, v1, v2, v3, v5, v6, v7 => (gI 17 45 h (some a0)).bind fun x22 => (gI 17 46 h (some a0)).bind fun x23 => (if (x22 * x23) ≤ v7 then mX16_goes_l40 FUEL h a0 v1 v2 v3 v5 v6 0 else (gR 17 44 h (some a0)).bind fun x24 => (gR 17 42 h (some a0)).bind fun x25 => (gAI 20 h x25 v7).bind fun x26 => (pAI 20 h x24 v7 x26).bind fun h27 => mX16_goes_l3 n h27 a0 v1 v2 v3 v5 v6 (v7 + 1))
def mX16_goes (h : MHp) (a0 : Nat) (a1 : Int32) (a2 : Int32) (a3 : Int64) (a4 : Int32) (a5 : Int32) : Option (Int32 × MHp) := mX16_goes_l3 FUEL h a0 a1 a2 a3 a4 a5 0
set_option maxRecDepth 100000 in
set_option maxHeartbeats 4000000 in
theorem c_X16_goes (l : Launch) (G : Env0) (h : MHp) (a0 : Nat) (a1 : Int32) (a2 : Int32) (a3 : Int64) (a4 : Int32) (a5 : Int32) (res : Int32 × MHp) (hh : mX16_goes h a0 a1 a2 a3 a4 a5 = some res) : MG l yX16_goes cX16_goes 10 (some .int) 2 52 0 0 G h [.ref a0, .int a1, .int a2, .long a3, .int a4, .int a5] (some (.int res.1)) (res.2) := by
  refine MG_of (own := RX16) (plainFor_of_name (by decide)) rfl (Nat.le_of_ble_eq_true rfl) ?_
  intro p e s m args below meth c Q ls hQ C X hin hm hs hl hr
  have hl : lv_has ls 10 [(0, va_rf (some a0)), (1, .int a1), (2, .int a2), (3, .long a3), (5, .int a4), (6, .int a5)] := hl
  have B137 : ∀ (k40 : MHp → Nat → Int32 → Int32 → Int64 → Int32 → Int32 → Int32 → Option (Int32 × MHp)), (∀ (h : MHp) (H : Heap) (locs : List Loc) (ls : Array Slot) (a0 : Nat) (v1 : Int32) (v2 : Int32) (v3 : Int64) (v5 : Int32) (v6 : Int32) (v7 : Int32) , mHp (gD G) (gC G) (gB G) h H → va_S (fun q => gB G ≤ q) s.heap H locs → lv_has ls 10 [(0, va_rf (some a0)), (1, .int v1), (2, .int v2), (3, .long v3), (5, .int v5), (6, .int v6), (7, .int v7)] → k40 h a0 v1 v2 v3 v5 v6 v7 = some res → W p l e ({ frames := 2, cells := 0, slots := 0, locals := 52 }) s m args below meth c H locs 0 0 Q (F0 m 40 ls [])) → ∀ (k62 : MHp → Nat → Int32 → Int32 → Int64 → Int32 → Int32 → Int32 → Int32 → Option (Int32 × MHp)), (∀ (h : MHp) (H : Heap) (locs : List Loc) (ls : Array Slot) (a0 : Nat) (v1 : Int32) (v2 : Int32) (v3 : Int64) (v5 : Int32) (v6 : Int32) (v7 : Int32) (v8 : Int32) , mHp (gD G) (gC G) (gB G) h H → va_S (fun q => gB G ≤ q) s.heap H locs → lv_has ls 10 [(0, va_rf (some a0)), (1, .int v1), (2, .int v2), (3, .long v3), (5, .int v5), (6, .int v6), (7, .int v7), (8, .int v8)] → k62 h a0 v1 v2 v3 v5 v6 v7 v8 = some res → W p l e ({ frames := 2, cells := 0, slots := 0, locals := 52 }) s m args below meth c H locs 0 0 Q (F0 m 62 ls [])) → ∀ (h : MHp) (H : Heap) (locs : List Loc) (ls : Array Slot) (a0 : Nat) (v1 : Int32) (v2 : Int32) (v3 : Int64) (v5 : Int32) (v6 : Int32) (v7 : Int32) (v8 : Int32) , mHp (gD G) (gC G) (gB G) h H → va_S (fun q => gB G ≤ q) s.heap H locs → lv_has ls 10 [(0, va_rf (some a0)), (1, .int v1), (2, .int v2), (3, .long v3), (5, .int v5), (6, .int v6), (7, .int v7), (8, .int v8)] → mX16_goes_b137 k40 k62 h a0 v1 v2 v3 v5 v6 v7 v8 = some res → W p l e ({ frames := 2, cells := 0, slots := 0, locals := 52 }) s m args below meth c H locs 0 0 Q (F0 m 137 ls []) := by
    intro k40 hk40 k62 hk62 h H locs ls a0 v1 v2 v3 v5 v6 v7 v8 hm hs hl hh
    unfold mX16_goes_b137 at hh
    refine r_aload_n C.1 C.2.1 dX16_goes_137 rfl (lv_at hl 0 rfl) ?_
    refine r_getR C hm flX16_100 dX16_goes_138 hh (fun x1 _ hh => ?_)
    refine lv_iload C.1 C.2.1 dX16_goes_141 (lv_at hl 7 rfl) ?_
    refine r_ald C hm dX16_goes_143 hh (fun x2 _ hh => ?_)
    refine lv_istore (i := 8) (lv' := [(8, .int x2), (0, va_rf (some a0)), (1, .int v1), (2, .int v2), (3, .long v3), (5, .int v5), (6, .int v6), (7, .int v7)]) C.1 C.2.1 dX16_goes_144 hl (by decide) rfl (fun ls hl => ?_)
    refine lv_goto (tgt := 62) C.1 C.2.1 dX16_goes_146 (by decide) ?_
    exact hk62 _ _ _ _ _ _ _ _ _ _ _ _  hm hs (lv_sub hl [1, 2, 3, 4, 5, 6, 7, 0] rfl) hh
  have B62 : ∀ (k40 : MHp → Nat → Int32 → Int32 → Int64 → Int32 → Int32 → Int32 → Option (Int32 × MHp)), (∀ (h : MHp) (H : Heap) (locs : List Loc) (ls : Array Slot) (a0 : Nat) (v1 : Int32) (v2 : Int32) (v3 : Int64) (v5 : Int32) (v6 : Int32) (v7 : Int32) , mHp (gD G) (gC G) (gB G) h H → va_S (fun q => gB G ≤ q) s.heap H locs → lv_has ls 10 [(0, va_rf (some a0)), (1, .int v1), (2, .int v2), (3, .long v3), (5, .int v5), (6, .int v6), (7, .int v7)] → k40 h a0 v1 v2 v3 v5 v6 v7 = some res → W p l e ({ frames := 2, cells := 0, slots := 0, locals := 52 }) s m args below meth c H locs 0 0 Q (F0 m 40 ls [])) → ∀ n : Nat, ∀ (h : MHp) (H : Heap) (locs : List Loc) (ls : Array Slot) (a0 : Nat) (v1 : Int32) (v2 : Int32) (v3 : Int64) (v5 : Int32) (v6 : Int32) (v7 : Int32) (v8 : Int32) , mHp (gD G) (gC G) (gB G) h H → va_S (fun q => gB G ≤ q) s.heap H locs → lv_has ls 10 [(0, va_rf (some a0)), (1, .int v1), (2, .int v2), (3, .long v3), (5, .int v5), (6, .int v6), (7, .int v7), (8, .int v8)] → mX16_goes_l62 k40 n h a0 v1 v2 v3 v5 v6 v7 v8 = some res → W p l e ({ frames := 2, cells := 0, slots := 0, locals := 52 }) s m args below meth c H locs 0 0 Q (F0 m 62 ls []) := by
    intro k40 hk40 n
    induction n with
    | zero => intro h H locs ls a0 v1 v2 v3 v5 v6 v7 v8 hm hs hl hh; cases hh
    | succ n ih =>
      intro h H locs ls a0 v1 v2 v3 v5 v6 v7 v8 hm hs hl hh
      unfold mX16_goes_l62 at hh
      refine lv_iload C.1 C.2.1 dX16_goes_62 (lv_at hl 7 rfl) ?_
      refine lv_iload_n C.1 C.2.1 dX16_goes_64 rfl (lv_at hl 1 rfl) ?_
      refine lv_icmp_eq (tgt := 149) C.1 C.2.1 dX16_goes_65 (by decide) (fun c17 => ?_) (fun c17 => ?_)
      · rw [if_pos c17] at hh
        refine lv_iinc (v := (v7 + 1)) (lv' := [(7, .int (v7 + 1)), (0, va_rf (some a0)), (1, .int v1), (2, .int v2), (3, .long v3), (5, .int v5), (6, .int v6), (8, .int v8)]) C.1 C.2.1 dX16_goes_149 hl (k := 6) rfl rfl (by decide) rfl (fun ls hl => ?_)
        refine lv_goto (tgt := 40) C.1 C.2.1 dX16_goes_152 (by decide) ?_
        exact hk40 _ _ _ _ _ _ _ _ _ _ _  hm hs (lv_sub hl [1, 2, 3, 4, 5, 6, 0] rfl) hh
      · rw [if_neg c17] at hh
        refine r_aload_n C.1 C.2.1 dX16_goes_68 rfl (lv_at hl 0 rfl) ?_
        refine r_getR C hm flX16_100 dX16_goes_69 hh (fun x3 _ hh => ?_)
        refine lv_iload C.1 C.2.1 dX16_goes_72 (lv_at hl 7 rfl) ?_
        refine r_ald C hm dX16_goes_74 hh (fun x4 _ hh => ?_)
        refine lv_istore (i := 9) (lv' := [(9, .int x4), (0, va_rf (some a0)), (1, .int v1), (2, .int v2), (3, .long v3), (5, .int v5), (6, .int v6), (7, .int v7), (8, .int v8)]) C.1 C.2.1 dX16_goes_75 hl (by decide) rfl (fun ls hl => ?_)
        refine lv_iload C.1 C.2.1 dX16_goes_77 (lv_at hl 0 rfl) ?_
        refine r_aload_n C.1 C.2.1 dX16_goes_79 rfl (lv_at hl 1 rfl) ?_
        refine r_getI C hm flX16_427 dX16_goes_80 hh (fun x5 _ hh => ?_)
        refine lv_icmp_ge (tgt := 113) C.1 C.2.1 dX16_goes_83 (by decide) (fun c16 => ?_) (fun c16 => ?_)
        · rw [if_pos c16] at hh
          refine r_aload_n C.1 C.2.1 dX16_goes_113 rfl (lv_at hl 1 rfl) ?_
          refine r_getR C hm flX16_97 dX16_goes_114 hh (fun x6 _ hh => ?_)
          refine r_aload_n C.1 C.2.1 dX16_goes_117 rfl (lv_at hl 1 rfl) ?_
          refine r_getI C hm flX16_430 dX16_goes_118 hh (fun x7 _ hh => ?_)
          refine lv_iload C.1 C.2.1 dX16_goes_121 (lv_at hl 8 rfl) ?_
          refine lv_imul C.1 C.2.1 dX16_goes_123 ?_
          refine lv_iload C.1 C.2.1 dX16_goes_124 (lv_at hl 0 rfl) ?_
          refine lv_iadd C.1 C.2.1 dX16_goes_126 ?_
          refine r_aload_n C.1 C.2.1 dX16_goes_127 rfl (lv_at hl 1 rfl) ?_
          refine r_getI C hm flX16_427 dX16_goes_128 hh (fun x8 _ hh => ?_)
          refine lv_isub C.1 C.2.1 dX16_goes_131 ?_
          refine lv_dup2_11 C.1 C.2.1 dX16_goes_132 rfl (va_cat _) ?_
          refine r_ald C hm dX16_goes_133 hh (fun x9 _ hh => ?_)
          refine lv_iconst (v := 1) C.1 C.2.1 dX16_goes_134 (by decide) ?_
          refine lv_isub C.1 C.2.1 dX16_goes_135 ?_
          refine r_ast C hm hs dX16_goes_136 hh (fun h10 H locs _ hh hm hs => ?_)
          exact B137 _ hk40 _ ih _ _ _ _ _ _ _ _ _ _ _ _  hm hs (lv_sub hl [1, 2, 3, 4, 5, 6, 7, 8] rfl) hh
        · rw [if_neg c16] at hh
          refine r_aload_n C.1 C.2.1 dX16_goes_86 rfl (lv_at hl 1 rfl) ?_
          refine r_getR C hm flX16_97 dX16_goes_87 hh (fun x11 _ hh => ?_)
          refine r_aload_n C.1 C.2.1 dX16_goes_90 rfl (lv_at hl 1 rfl) ?_
          refine r_getI C hm flX16_430 dX16_goes_91 hh (fun x12 _ hh => ?_)
          refine lv_iload C.1 C.2.1 dX16_goes_94 (lv_at hl 0 rfl) ?_
          refine lv_imul C.1 C.2.1 dX16_goes_96 ?_
          refine lv_iload C.1 C.2.1 dX16_goes_97 (lv_at hl 8 rfl) ?_
          refine lv_iadd C.1 C.2.1 dX16_goes_99 ?_
          refine r_aload_n C.1 C.2.1 dX16_goes_100 rfl (lv_at hl 1 rfl) ?_
          refine r_getI C hm flX16_427 dX16_goes_101 hh (fun x13 _ hh => ?_)
          refine lv_isub C.1 C.2.1 dX16_goes_104 ?_
          refine lv_dup2_11 C.1 C.2.1 dX16_goes_105 rfl (va_cat _) ?_
          refine r_ald C hm dX16_goes_106 hh (fun x14 _ hh => ?_)
          refine lv_iconst (v := 1) C.1 C.2.1 dX16_goes_107 (by decide) ?_
          refine lv_iadd C.1 C.2.1 dX16_goes_108 ?_
          refine r_ast C hm hs dX16_goes_109 hh (fun h15 H locs _ hh hm hs => ?_)
          refine lv_goto (tgt := 137) C.1 C.2.1 dX16_goes_110 (by decide) ?_
          exact B137 _ hk40 _ ih _ _ _ _ _ _ _ _ _ _ _ _  hm hs (lv_sub hl [1, 2, 3, 4, 5, 6, 7, 8] rfl) hh
  have B40 : ∀ n : Nat, ∀ (h : MHp) (H : Heap) (locs : List Loc) (ls : Array Slot) (a0 : Nat) (v1 : Int32) (v2 : Int32) (v3 : Int64) (v5 : Int32) (v6 : Int32) (v7 : Int32) , mHp (gD G) (gC G) (gB G) h H → va_S (fun q => gB G ≤ q) s.heap H locs → lv_has ls 10 [(0, va_rf (some a0)), (1, .int v1), (2, .int v2), (3, .long v3), (5, .int v5), (6, .int v6), (7, .int v7)] → mX16_goes_l40 n h a0 v1 v2 v3 v5 v6 v7 = some res → W p l e ({ frames := 2, cells := 0, slots := 0, locals := 52 }) s m args below meth c H locs 0 0 Q (F0 m 40 ls []) := by
    intro n
    induction n with
    | zero => intro h H locs ls a0 v1 v2 v3 v5 v6 v7 hm hs hl hh; cases hh
    | succ n ih =>
      intro h H locs ls a0 v1 v2 v3 v5 v6 v7 hm hs hl hh
      unfold mX16_goes_l40 at hh
      refine lv_iload C.1 C.2.1 dX16_goes_40 (lv_at hl 6 rfl) ?_
      refine lv_iload C.1 C.2.1 dX16_goes_42 (lv_at hl 5 rfl) ?_
      refine lv_icmp_ge (tgt := 155) C.1 C.2.1 dX16_goes_44 (by decide) (fun c21 => ?_) (fun c21 => ?_)
      · rw [if_pos c21] at hh
        refine lv_iload C.1 C.2.1 dX16_goes_155 (lv_at hl 6 rfl) ?_
        exact r_iretW hQ C hr hm hs hh dX16_goes_157
      · rw [if_neg c21] at hh
        refine r_aload_n C.1 C.2.1 dX16_goes_47 rfl (lv_at hl 0 rfl) ?_
        refine lv_iload_n C.1 C.2.1 dX16_goes_48 rfl (lv_at hl 1 rfl) ?_
        refine lv_iload_n C.1 C.2.1 dX16_goes_49 rfl (lv_at hl 2 rfl) ?_
        refine lv_lload_n C.1 C.2.1 dX16_goes_50 rfl (lv_at hl 3 rfl) ?_
        refine lv_iload C.1 C.2.1 dX16_goes_51 (lv_at hl 4 rfl) ?_
        refine r_cV C X hm hs mlX16_448 mvX16_448 hh (vv := fun r => some (.int r.1)) (hp := fun r => r.2) (fun b r hg => c_X16_leads l G h b _ _ _ _ r hg) rfl rfl (Nat.le_of_ble_eq_true rfl) (Nat.le_of_ble_eq_true rfl) (Nat.le_of_ble_eq_true rfl) hl.1 dX16_goes_53 (fun b19 r18 H locs hgr18 hh hm hs => ?_)
        refine W.eq (g2 := F0 m 56 ls [.int r18.1]) rfl ?_
        refine lv_if_eq (tgt := 155) C.1 C.2.1 dX16_goes_56 (by decide) (fun c20 => ?_) (fun c20 => ?_)
        · rw [if_pos c20] at hh
          refine lv_iload C.1 C.2.1 dX16_goes_155 (lv_at hl 6 rfl) ?_
          exact r_iretW hQ C hr hm hs hh dX16_goes_157
        · rw [if_neg c20] at hh
          refine lv_iload_n C.1 C.2.1 dX16_goes_59 rfl (lv_at hl 2 rfl) ?_
          refine lv_istore (i := 8) (lv' := [(8, .int v2), (0, va_rf (some a0)), (1, .int v1), (2, .int v2), (3, .long v3), (5, .int v5), (6, .int v6), (7, .int v7)]) C.1 C.2.1 dX16_goes_60 hl (by decide) rfl (fun ls hl => ?_)
          exact B62 _ ih FUEL _ _ _ _ _ _ _ _ _ _ _ _  hm hs (lv_sub hl [1, 2, 3, 4, 5, 6, 7, 0] rfl) hh
  have B3 : ∀ n : Nat, ∀ (h : MHp) (H : Heap) (locs : List Loc) (ls : Array Slot) (a0 : Nat) (v1 : Int32) (v2 : Int32) (v3 : Int64) (v5 : Int32) (v6 : Int32) (v7 : Int32) , mHp (gD G) (gC G) (gB G) h H → va_S (fun q => gB G ≤ q) s.heap H locs → lv_has ls 10 [(0, va_rf (some a0)), (1, .int v1), (2, .int v2), (3, .long v3), (5, .int v5), (6, .int v6), (7, .int v7)] → mX16_goes_l3 n h a0 v1 v2 v3 v5 v6 v7 = some res → W p l e ({ frames := 2, cells := 0, slots := 0, locals := 52 }) s m args below meth c H locs 0 0 Q (F0 m 3 ls []) := by
    intro n
    induction n with
    | zero => intro h H locs ls a0 v1 v2 v3 v5 v6 v7 hm hs hl hh; cases hh
    | succ n ih =>
      intro h H locs ls a0 v1 v2 v3 v5 v6 v7 hm hs hl hh
      unfold mX16_goes_l3 at hh
      refine lv_iload C.1 C.2.1 dX16_goes_3 (lv_at hl 6 rfl) ?_
      refine r_aload_n C.1 C.2.1 dX16_goes_5 rfl (lv_at hl 0 rfl) ?_
      refine r_getI C hm flX16_427 dX16_goes_6 hh (fun x22 _ hh => ?_)
      refine r_aload_n C.1 C.2.1 dX16_goes_9 rfl (lv_at hl 0 rfl) ?_
      refine r_getI C hm flX16_430 dX16_goes_10 hh (fun x23 _ hh => ?_)
      refine lv_imul C.1 C.2.1 dX16_goes_13 ?_
      refine lv_icmp_ge (tgt := 37) C.1 C.2.1 dX16_goes_14 (by decide) (fun c28 => ?_) (fun c28 => ?_)
      · rw [if_pos c28] at hh
        refine lv_iconst (v := 0) C.1 C.2.1 dX16_goes_37 (by decide) ?_
        refine lv_istore (i := 7) (lv' := [(7, .int 0), (0, va_rf (some a0)), (1, .int v1), (2, .int v2), (3, .long v3), (5, .int v5), (6, .int v6)]) C.1 C.2.1 dX16_goes_38 hl (by decide) rfl (fun ls hl => ?_)
        exact B40 FUEL _ _ _ _ _ _ _ _ _ _ _  hm hs (lv_sub hl [1, 2, 3, 4, 5, 6, 0] rfl) hh
      · rw [if_neg c28] at hh
        refine r_aload_n C.1 C.2.1 dX16_goes_17 rfl (lv_at hl 0 rfl) ?_
        refine r_getR C hm flX16_97 dX16_goes_18 hh (fun x24 _ hh => ?_)
        refine lv_iload C.1 C.2.1 dX16_goes_21 (lv_at hl 6 rfl) ?_
        refine r_aload_n C.1 C.2.1 dX16_goes_23 rfl (lv_at hl 0 rfl) ?_
        refine r_getR C hm flX16_91 dX16_goes_24 hh (fun x25 _ hh => ?_)
        refine lv_iload C.1 C.2.1 dX16_goes_27 (lv_at hl 6 rfl) ?_
        refine r_ald C hm dX16_goes_29 hh (fun x26 _ hh => ?_)
        refine r_ast C hm hs dX16_goes_30 hh (fun h27 H locs _ hh hm hs => ?_)
        refine lv_iinc (v := (v7 + 1)) (lv' := [(7, .int (v7 + 1)), (0, va_rf (some a0)), (1, .int v1), (2, .int v2), (3, .long v3), (5, .int v5), (6, .int v6)]) C.1 C.2.1 dX16_goes_31 hl (k := 6) rfl rfl (by decide) rfl (fun ls hl => ?_)
        refine lv_goto (tgt := 3) C.1 C.2.1 dX16_goes_34 (by decide) ?_
        exact ih _ _ _ _ _ _ _ _ _ _ _  hm hs (lv_sub hl [1, 2, 3, 4, 5, 6, 0] rfl) hh
  unfold mX16_goes at hh
  refine lv_iconst (v := 0) C.1 C.2.1 dX16_goes_0 (by decide) ?_
  refine lv_istore (i := 7) (lv' := [(7, .int 0), (0, va_rf (some a0)), (1, .int a1), (2, .int a2), (3, .long a3), (5, .int a4), (6, .int a5)]) C.1 C.2.1 dX16_goes_1 hl (by decide) rfl (fun ls hl => ?_)
  exact B3 FUEL _ _ _ _ _ _ _ _ _ _ _  hm hs (lv_sub hl [1, 2, 3, 4, 5, 6, 0] rfl) hh
def mX16_highOf (h : MHp) (a0 : Nat) (a1 : Int64) (a2 : Int32) : Option (Int32 × MHp) := (gR 17 42 h (some a0)).bind fun x1 => (gAI 20 h x1 a2).bind fun x2 => (gI 17 45 h (some a0)).bind fun x3 => (gI 17 46 h (some a0)).bind fun x4 => (nz x4).bind fun _ => (gI 17 46 h (some a0)).bind fun x5 => (nz x5).bind fun _ => (rcv 17 h (some a0)).bind fun b7 => (mX16_goes h b7 (x3 + (a2 - a2 / x4 * x4)) (a2 / x5) a1 a2 60).bind fun r6 => some ((x2 + r6.1), r6.2)
set_option maxRecDepth 100000 in
set_option maxHeartbeats 4000000 in
theorem c_X16_highOf (l : Launch) (G : Env0) (h : MHp) (a0 : Nat) (a1 : Int64) (a2 : Int32) (res : Int32 × MHp) (hh : mX16_highOf h a0 a1 a2 = some res) : MG l yX16_highOf cX16_highOf 4 (some .int) 3 81 0 0 G h [.ref a0, .long a1, .int a2] (some (.int res.1)) (res.2) := by
  refine MG_of (own := RX16) (plainFor_of_name (by decide)) rfl (Nat.le_of_ble_eq_true rfl) ?_
  intro p e s m args below meth c Q ls hQ C X hin hm hs hl hr
  have hl : lv_has ls 4 [(0, va_rf (some a0)), (1, .long a1), (3, .int a2)] := hl
  unfold mX16_highOf at hh
  refine r_aload_n C.1 C.2.1 dX16_highOf_0 rfl (lv_at hl 0 rfl) ?_
  refine r_getR C hm flX16_91 dX16_highOf_1 hh (fun x1 _ hh => ?_)
  refine lv_iload_n C.1 C.2.1 dX16_highOf_4 rfl (lv_at hl 2 rfl) ?_
  refine r_ald C hm dX16_highOf_5 hh (fun x2 _ hh => ?_)
  refine r_aload_n C.1 C.2.1 dX16_highOf_6 rfl (lv_at hl 0 rfl) ?_
  refine r_aload_n C.1 C.2.1 dX16_highOf_7 rfl (lv_at hl 0 rfl) ?_
  refine r_getI C hm flX16_427 dX16_highOf_8 hh (fun x3 _ hh => ?_)
  refine lv_iload_n C.1 C.2.1 dX16_highOf_11 rfl (lv_at hl 2 rfl) ?_
  refine r_aload_n C.1 C.2.1 dX16_highOf_12 rfl (lv_at hl 0 rfl) ?_
  refine r_getI C hm flX16_430 dX16_highOf_13 hh (fun x4 _ hh => ?_)
  refine r_irem C dX16_highOf_16 hh (fun _ hh => ?_)
  refine lv_iadd C.1 C.2.1 dX16_highOf_17 ?_
  refine lv_iload_n C.1 C.2.1 dX16_highOf_18 rfl (lv_at hl 2 rfl) ?_
  refine r_aload_n C.1 C.2.1 dX16_highOf_19 rfl (lv_at hl 0 rfl) ?_
  refine r_getI C hm flX16_430 dX16_highOf_20 hh (fun x5 _ hh => ?_)
  refine r_idiv C dX16_highOf_23 hh (fun _ hh => ?_)
  refine lv_lload_n C.1 C.2.1 dX16_highOf_24 rfl (lv_at hl 1 rfl) ?_
  refine lv_iload_n C.1 C.2.1 dX16_highOf_25 rfl (lv_at hl 2 rfl) ?_
  refine lv_bipush (v := 60) C.1 C.2.1 dX16_highOf_26 (by decide) ?_
  refine r_cV C X hm hs mlX16_452 mvX16_452 hh (vv := fun r => some (.int r.1)) (hp := fun r => r.2) (fun b r hg => c_X16_goes l G h b _ _ _ _ _ r hg) rfl rfl (Nat.le_of_ble_eq_true rfl) (Nat.le_of_ble_eq_true rfl) (Nat.le_of_ble_eq_true rfl) hl.1 dX16_highOf_28 (fun b7 r6 H locs hgr6 hh hm hs => ?_)
  refine W.eq (g2 := F0 m 31 ls [.int r6.1, .int x2]) rfl ?_
  refine lv_iadd C.1 C.2.1 dX16_highOf_31 ?_
  exact r_iretW hQ C hr hm hs hh dX16_highOf_32
def mX16_lowOf (h : MHp) (a0 : Nat) (a1 : Int64) (a2 : Int32) : Option (Int32 × MHp) := (gR 17 42 h (some a0)).bind fun x1 => (gAI 20 h x1 a2).bind fun x2 => (gI 17 46 h (some a0)).bind fun x3 => (nz x3).bind fun _ => (gI 17 45 h (some a0)).bind fun x4 => (gI 17 46 h (some a0)).bind fun x5 => (nz x5).bind fun _ => (gR 17 42 h (some a0)).bind fun x6 => (gAI 20 h x6 a2).bind fun x7 => (rcv 17 h (some a0)).bind fun b9 => (mX16_goes h b9 (a2 / x3) (x4 + (a2 - a2 / x5 * x5)) a1 a2 x7).bind fun r8 => some ((x2 - r8.1), r8.2)
set_option maxRecDepth 100000 in
set_option maxHeartbeats 4000000 in
theorem c_X16_lowOf (l : Launch) (G : Env0) (h : MHp) (a0 : Nat) (a1 : Int64) (a2 : Int32) (res : Int32 × MHp) (hh : mX16_lowOf h a0 a1 a2 = some res) : MG l yX16_lowOf cX16_lowOf 4 (some .int) 3 81 0 0 G h [.ref a0, .long a1, .int a2] (some (.int res.1)) (res.2) := by
  refine MG_of (own := RX16) (plainFor_of_name (by decide)) rfl (Nat.le_of_ble_eq_true rfl) ?_
  intro p e s m args below meth c Q ls hQ C X hin hm hs hl hr
  have hl : lv_has ls 4 [(0, va_rf (some a0)), (1, .long a1), (3, .int a2)] := hl
  unfold mX16_lowOf at hh
  refine r_aload_n C.1 C.2.1 dX16_lowOf_0 rfl (lv_at hl 0 rfl) ?_
  refine r_getR C hm flX16_91 dX16_lowOf_1 hh (fun x1 _ hh => ?_)
  refine lv_iload_n C.1 C.2.1 dX16_lowOf_4 rfl (lv_at hl 2 rfl) ?_
  refine r_ald C hm dX16_lowOf_5 hh (fun x2 _ hh => ?_)
  refine r_aload_n C.1 C.2.1 dX16_lowOf_6 rfl (lv_at hl 0 rfl) ?_
  refine lv_iload_n C.1 C.2.1 dX16_lowOf_7 rfl (lv_at hl 2 rfl) ?_
  refine r_aload_n C.1 C.2.1 dX16_lowOf_8 rfl (lv_at hl 0 rfl) ?_
  refine r_getI C hm flX16_430 dX16_lowOf_9 hh (fun x3 _ hh => ?_)
  refine r_idiv C dX16_lowOf_12 hh (fun _ hh => ?_)
  refine r_aload_n C.1 C.2.1 dX16_lowOf_13 rfl (lv_at hl 0 rfl) ?_
  refine r_getI C hm flX16_427 dX16_lowOf_14 hh (fun x4 _ hh => ?_)
  refine lv_iload_n C.1 C.2.1 dX16_lowOf_17 rfl (lv_at hl 2 rfl) ?_
  refine r_aload_n C.1 C.2.1 dX16_lowOf_18 rfl (lv_at hl 0 rfl) ?_
  refine r_getI C hm flX16_430 dX16_lowOf_19 hh (fun x5 _ hh => ?_)
  refine r_irem C dX16_lowOf_22 hh (fun _ hh => ?_)
  refine lv_iadd C.1 C.2.1 dX16_lowOf_23 ?_
  refine lv_lload_n C.1 C.2.1 dX16_lowOf_24 rfl (lv_at hl 1 rfl) ?_
  refine lv_iload_n C.1 C.2.1 dX16_lowOf_25 rfl (lv_at hl 2 rfl) ?_
  refine r_aload_n C.1 C.2.1 dX16_lowOf_26 rfl (lv_at hl 0 rfl) ?_
  refine r_getR C hm flX16_91 dX16_lowOf_27 hh (fun x6 _ hh => ?_)
  refine lv_iload_n C.1 C.2.1 dX16_lowOf_30 rfl (lv_at hl 2 rfl) ?_
  refine r_ald C hm dX16_lowOf_31 hh (fun x7 _ hh => ?_)
  refine r_cV C X hm hs mlX16_452 mvX16_452 hh (vv := fun r => some (.int r.1)) (hp := fun r => r.2) (fun b r hg => c_X16_goes l G h b _ _ _ _ _ r hg) rfl rfl (Nat.le_of_ble_eq_true rfl) (Nat.le_of_ble_eq_true rfl) (Nat.le_of_ble_eq_true rfl) hl.1 dX16_lowOf_32 (fun b9 r8 H locs hgr8 hh hm hs => ?_)
  refine W.eq (g2 := F0 m 35 ls [.int r8.1, .int x2]) rfl ?_
  refine lv_isub C.1 C.2.1 dX16_lowOf_35 ?_
  exact r_iretW hQ C hr hm hs hh dX16_lowOf_36
def mX16_areBits (h : MHp) (a0 : Nat) (a1 : Int64) : Option (Int32) := (if (lg_cmp a1 0) < 0 then some 0 else (gI 17 45 h (some a0)).bind fun x1 => (gI 17 46 h (some a0)).bind fun x2 => (if (lg_cmp (a1 >>> ((x1 * x2).toInt64 &&& 63)) 0) = 0 then some 1 else some 0))
set_option maxRecDepth 100000 in
set_option maxHeartbeats 4000000 in
theorem c_X16_areBits (l : Launch) (G : Env0) (h : MHp) (a0 : Nat) (a1 : Int64) (res : Int32) (hh : mX16_areBits h a0 a1 = some res) : MG l yX16_areBits cX16_areBits 3 (some .boolean) 0 0 0 0 G h [.ref a0, .long a1] (some (.int res)) (h) := by
  refine MG_of (own := RX16) (plainFor_of_name (by decide)) rfl (Nat.le_of_ble_eq_true rfl) ?_
  intro p e s m args below meth c Q ls hQ C X hin hm hs hl hr
  have hl : lv_has ls 3 [(0, va_rf (some a0)), (1, .long a1)] := hl
  unfold mX16_areBits at hh
  refine lv_lload_n C.1 C.2.1 dX16_areBits_0 rfl (lv_at hl 1 rfl) ?_
  refine lv_lconst (v := 0) C.1 C.2.1 dX16_areBits_1 (by decide) ?_
  refine W.lcmp C.1 C.2.1 dX16_areBits_2 ?_
  refine lv_if_lt (tgt := 26) C.1 C.2.1 dX16_areBits_3 (by decide) (fun c4 => ?_) (fun c4 => ?_)
  · rw [if_pos c4] at hh
    refine lv_iconst (v := 0) C.1 C.2.1 dX16_areBits_26 (by decide) ?_
    exact r_bretP hQ C hr hm hs (by decide) hh dX16_areBits_27
  · rw [if_neg c4] at hh
    refine lv_lload_n C.1 C.2.1 dX16_areBits_6 rfl (lv_at hl 1 rfl) ?_
    refine r_aload_n C.1 C.2.1 dX16_areBits_7 rfl (lv_at hl 0 rfl) ?_
    refine r_getI C hm flX16_427 dX16_areBits_8 hh (fun x1 _ hh => ?_)
    refine r_aload_n C.1 C.2.1 dX16_areBits_11 rfl (lv_at hl 0 rfl) ?_
    refine r_getI C hm flX16_430 dX16_areBits_12 hh (fun x2 _ hh => ?_)
    refine lv_imul C.1 C.2.1 dX16_areBits_15 ?_
    refine lv_lshr (v := (a1 >>> ((x1 * x2).toInt64 &&& 63))) C.1 C.2.1 dX16_areBits_16 rfl ?_
    refine lv_lconst (v := 0) C.1 C.2.1 dX16_areBits_17 (by decide) ?_
    refine W.lcmp C.1 C.2.1 dX16_areBits_18 ?_
    refine lv_if_ne (tgt := 26) C.1 C.2.1 dX16_areBits_19 (by decide) (fun c3 => ?_) (fun c3 => ?_)
    · rw [if_neg c3] at hh
      refine lv_iconst (v := 0) C.1 C.2.1 dX16_areBits_26 (by decide) ?_
      exact r_bretP hQ C hr hm hs (by decide) hh dX16_areBits_27
    · rw [if_pos c3] at hh
      refine lv_iconst (v := 1) C.1 C.2.1 dX16_areBits_22 (by decide) ?_
      refine lv_goto (tgt := 27) C.1 C.2.1 dX16_areBits_23 (by decide) ?_
      exact r_bretP hQ C hr hm hs (by decide) hh dX16_areBits_27
def mX16_edge_b120 (h : MHp) (t0 : Option Nat) (t1 : Int32) : Option (Int32 × MHp) := (rcv 17 h t0).bind fun b2 => (mX16_done h b2 t1).bind fun r1 => some (r1.1, r1.2)
def mX16_edge (h : MHp) (a0 : Nat) (a1 : Int32) (a2 : Int32) (a3 : Int32) (a4 : Int64) (a5 : Int32) : Option (Int32 × MHp) := (pI 17 0 h (some a0) 0).bind fun h3 => (rcv 17 h3 (some a0)).bind fun b5 => (mX16_isCell h3 b5 a1 a2 a3).bind fun r4 => (if r4 = 0 then (rcv 17 h3 (some a0)).bind fun b34 => (mX16_refused h3 b34 1).bind fun r33 => some (r33.1, r33.2) else (gR 17 6 h3 (some a0)).bind fun x6 => (gAR 26 h3 x6 a1).bind fun x7 => (rcv 17 h3 (some a0)).bind fun b9 => (mX16_isByTwo h3 b9 x7).bind fun r8 => (if r8 = 0 then (rcv 17 h3 (some a0)).bind fun b31 => (mX16_refused h3 b31 5).bind fun r30 => some (r30.1, r30.2) else (gR 17 6 h3 (some a0)).bind fun x10 => (gAR 26 h3 x10 a1).bind fun x11 => (gR 17 42 h3 (some a0)).bind fun x12 => (rcv 17 h3 (some a0)).bind fun b14 => (mX16_counts h3 b14 x11 x12).bind fun r13 => (gI 17 46 r13 (some a0)).bind fun x15 => (mX16_has r13 a4 ((x15 * a2) + a3)).bind fun r16 => (if r16 = 0 then (rcv 17 r13 (some a0)).bind fun b28 => (mX16_refused r13 b28 5).bind fun r27 => some (r27.1, r27.2) else (rcv 17 r13 (some a0)).bind fun b18 => (mX16_areBits r13 b18 a4).bind fun r17 => (if r17 = 0 then (rcv 17 r13 (some a0)).bind fun b25 => (mX16_refused r13 b25 2).bind fun r24 => some (r24.1, r24.2) else (if a5 = 0 then (rcv 17 r13 (some a0)).bind fun b20 => (mX16_lowOf r13 b20 a4 ((x15 * a2) + a3)).bind fun r19 => mX16_edge_b120 r19.2 (some a0) r19.1 else (rcv 17 r13 (some a0)).bind fun b22 => (mX16_highOf r13 b22 a4 ((x15 * a2) + a3)).bind fun r21 => mX16_edge_b120 r21.2 (some a0) r21.1)))))
set_option maxRecDepth 100000 in
set_option maxHeartbeats 4000000 in
theorem c_X16_edge (l : Launch) (G : Env0) (h : MHp) (a0 : Nat) (a1 : Int32) (a2 : Int32) (a3 : Int32) (a4 : Int64) (a5 : Int32) (res : Int32 × MHp) (hh : mX16_edge h a0 a1 a2 a3 a4 a5 = some res) : MG l yX16_edge cX16_edge 8 (some .int) 4 104 0 0 G h [.ref a0, .int a1, .int a2, .int a3, .long a4, .int a5] (some (.int res.1)) (res.2) := by
  refine MG_of (own := RX16) (plainFor_of_name (by decide)) rfl (Nat.le_of_ble_eq_true rfl) ?_
  intro p e s m args below meth c Q ls hQ C X hin hm hs hl hr
  have hl : lv_has ls 8 [(0, va_rf (some a0)), (1, .int a1), (2, .int a2), (3, .int a3), (4, .long a4), (6, .int a5)] := hl
  have B120 : ∀ (h : MHp) (H : Heap) (locs : List Loc) (ls : Array Slot) (t0 : Option Nat) (t1 : Int32) , mHp (gD G) (gC G) (gB G) h H → va_S (fun q => gB G ≤ q) s.heap H locs → lv_has ls 8 [] → mX16_edge_b120 h t0 t1 = some res → W p l e ({ frames := 4, cells := 0, slots := 0, locals := 104 }) s m args below meth c H locs 0 0 Q (F0 m 120 ls [.int t1, va_rf t0]) := by
    intro h H locs ls t0 t1 hm hs hl hh
    unfold mX16_edge_b120 at hh
    refine r_cV C X hm hs mlX16_323 mvX16_323 hh (vv := fun r => some (.int r.1)) (hp := fun r => r.2) (fun b r hg => c_X16_done l G h b _ r hg) rfl rfl (Nat.le_of_ble_eq_true rfl) (Nat.le_of_ble_eq_true rfl) (Nat.le_of_ble_eq_true rfl) hl.1 dX16_edge_120 (fun b2 r1 H locs hgr1 hh hm hs => ?_)
    refine W.eq (g2 := F0 m 123 ls [.int r1.1]) rfl ?_
    exact r_iretW hQ C hr hm hs hh dX16_edge_123
  unfold mX16_edge at hh
  refine r_aload_n C.1 C.2.1 dX16_edge_0 rfl (lv_at hl 0 rfl) ?_
  refine lv_iconst (v := 0) C.1 C.2.1 dX16_edge_1 (by decide) ?_
  refine r_putI C hm hs flX16_109 (Or.inl fm_17_0) dX16_edge_2 hh (fun h3 H locs _ hh hm hs => ?_)
  refine r_aload_n C.1 C.2.1 dX16_edge_5 rfl (lv_at hl 0 rfl) ?_
  refine lv_iload_n C.1 C.2.1 dX16_edge_6 rfl (lv_at hl 1 rfl) ?_
  refine lv_iload_n C.1 C.2.1 dX16_edge_7 rfl (lv_at hl 2 rfl) ?_
  refine lv_iload_n C.1 C.2.1 dX16_edge_8 rfl (lv_at hl 3 rfl) ?_
  refine r_cV C X hm hs mlX16_393 mvX16_393 hh (vv := fun r => some (.int r)) (hp := fun r => h3) (fun b r hg => c_X16_isCell l G h3 b _ _ _ r hg) rfl rfl (Nat.le_of_ble_eq_true rfl) (Nat.le_of_ble_eq_true rfl) (Nat.le_of_ble_eq_true rfl) hl.1 dX16_edge_9 (fun b5 r4 H locs hgr4 hh hm hs => ?_)
  refine W.eq (g2 := F0 m 12 ls [.int r4]) rfl ?_
  refine lv_if_ne (tgt := 21) C.1 C.2.1 dX16_edge_12 (by decide) (fun c35 => ?_) (fun c35 => ?_)
  · rw [if_neg c35] at hh
    refine r_aload_n C.1 C.2.1 dX16_edge_21 rfl (lv_at hl 0 rfl) ?_
    refine r_aload_n C.1 C.2.1 dX16_edge_22 rfl (lv_at hl 0 rfl) ?_
    refine r_getR C hm flX16_15 dX16_edge_23 hh (fun x6 _ hh => ?_)
    refine lv_iload_n C.1 C.2.1 dX16_edge_26 rfl (lv_at hl 1 rfl) ?_
    refine r_ald_q C hm dX16_edge_27 (kd := 26) (by decide) (t0 := 6) rfl hh (fun x7 _ hh => ?_)
    refine r_cV C X hm hs mlX16_433 mvX16_433 hh (vv := fun r => some (.int r)) (hp := fun r => h3) (fun b r hg => c_X16_isByTwo l G h3 b _ r hg) rfl rfl (Nat.le_of_ble_eq_true rfl) (Nat.le_of_ble_eq_true rfl) (Nat.le_of_ble_eq_true rfl) hl.1 dX16_edge_28 (fun b9 r8 H locs hgr8 hh hm hs => ?_)
    refine W.eq (g2 := F0 m 31 ls [.int r8]) rfl ?_
    refine lv_if_ne (tgt := 40) C.1 C.2.1 dX16_edge_31 (by decide) (fun c32 => ?_) (fun c32 => ?_)
    · rw [if_neg c32] at hh
      refine r_aload_n C.1 C.2.1 dX16_edge_40 rfl (lv_at hl 0 rfl) ?_
      refine r_aload_n C.1 C.2.1 dX16_edge_41 rfl (lv_at hl 0 rfl) ?_
      refine r_getR C hm flX16_15 dX16_edge_42 hh (fun x10 _ hh => ?_)
      refine lv_iload_n C.1 C.2.1 dX16_edge_45 rfl (lv_at hl 1 rfl) ?_
      refine r_ald_q C hm dX16_edge_46 (kd := 26) (by decide) (t0 := 6) rfl hh (fun x11 _ hh => ?_)
      refine r_aload_n C.1 C.2.1 dX16_edge_47 rfl (lv_at hl 0 rfl) ?_
      refine r_getR C hm flX16_91 dX16_edge_48 hh (fun x12 _ hh => ?_)
      refine r_cV C X hm hs mlX16_437 mvX16_437 hh (vv := fun r => none) (hp := fun r => r) (fun b r hg => c_X16_counts l G h3 b _ _ r hg) rfl rfl (Nat.le_of_ble_eq_true rfl) (Nat.le_of_ble_eq_true rfl) (Nat.le_of_ble_eq_true rfl) hl.1 dX16_edge_51 (fun b14 r13 H locs hgr13 hh hm hs => ?_)
      refine W.eq (g2 := F0 m 54 ls []) rfl ?_
      refine r_aload_n C.1 C.2.1 dX16_edge_54 rfl (lv_at hl 0 rfl) ?_
      refine r_getI C hm flX16_430 dX16_edge_55 hh (fun x15 _ hh => ?_)
      refine lv_iload_n C.1 C.2.1 dX16_edge_58 rfl (lv_at hl 2 rfl) ?_
      refine lv_imul C.1 C.2.1 dX16_edge_59 ?_
      refine lv_iload_n C.1 C.2.1 dX16_edge_60 rfl (lv_at hl 3 rfl) ?_
      refine lv_iadd C.1 C.2.1 dX16_edge_61 ?_
      refine lv_istore (i := 7) (lv' := [(7, .int ((x15 * a2) + a3)), (0, va_rf (some a0)), (1, .int a1), (2, .int a2), (3, .int a3), (4, .long a4), (6, .int a5)]) C.1 C.2.1 dX16_edge_62 hl (by decide) rfl (fun ls hl => ?_)
      refine lv_lload C.1 C.2.1 dX16_edge_64 (lv_at hl 5 rfl) ?_
      refine lv_iload C.1 C.2.1 dX16_edge_66 (lv_at hl 0 rfl) ?_
      refine r_cS C X hm hs mlX16_444 msX16_444 hh (vv := fun r => some (.int r)) (hp := fun r => r13) (fun r hg => c_X16_has l G r13 _ _ r hg) rfl rfl (Nat.le_of_ble_eq_true rfl) (Nat.le_of_ble_eq_true rfl) (Nat.le_of_ble_eq_true rfl) hl.1 dX16_edge_68 (fun r16 H locs hgr16 hh hm hs => ?_)
      refine W.eq (g2 := F0 m 71 ls [.int r16]) rfl ?_
      refine lv_if_ne (tgt := 80) C.1 C.2.1 dX16_edge_71 (by decide) (fun c29 => ?_) (fun c29 => ?_)
      · rw [if_neg c29] at hh
        refine r_aload_n C.1 C.2.1 dX16_edge_80 rfl (lv_at hl 1 rfl) ?_
        refine lv_lload C.1 C.2.1 dX16_edge_81 (lv_at hl 5 rfl) ?_
        refine r_cV C X hm hs mlX16_456 mvX16_456 hh (vv := fun r => some (.int r)) (hp := fun r => r13) (fun b r hg => c_X16_areBits l G r13 b _ r hg) rfl rfl (Nat.le_of_ble_eq_true rfl) (Nat.le_of_ble_eq_true rfl) (Nat.le_of_ble_eq_true rfl) hl.1 dX16_edge_83 (fun b18 r17 H locs hgr17 hh hm hs => ?_)
        refine W.eq (g2 := F0 m 86 ls [.int r17]) rfl ?_
        refine lv_if_ne (tgt := 95) C.1 C.2.1 dX16_edge_86 (by decide) (fun c26 => ?_) (fun c26 => ?_)
        · rw [if_neg c26] at hh
          refine r_aload_n C.1 C.2.1 dX16_edge_95 rfl (lv_at hl 1 rfl) ?_
          refine lv_iload C.1 C.2.1 dX16_edge_96 (lv_at hl 6 rfl) ?_
          refine lv_if_eq (tgt := 112) C.1 C.2.1 dX16_edge_98 (by decide) (fun c23 => ?_) (fun c23 => ?_)
          · rw [if_pos c23] at hh
            refine r_aload_n C.1 C.2.1 dX16_edge_112 rfl (lv_at hl 1 rfl) ?_
            refine lv_lload C.1 C.2.1 dX16_edge_113 (lv_at hl 5 rfl) ?_
            refine lv_iload C.1 C.2.1 dX16_edge_115 (lv_at hl 0 rfl) ?_
            refine r_cV C X hm hs mlX16_464 mvX16_464 hh (vv := fun r => some (.int r.1)) (hp := fun r => r.2) (fun b r hg => c_X16_lowOf l G r13 b _ _ r hg) rfl rfl (by simp [va_cat, vc_i, vc_l, vc_r]) (Nat.le_of_ble_eq_true rfl) (Nat.le_of_ble_eq_true rfl) hl.1 dX16_edge_117 (fun b20 r19 H locs hgr19 hh hm hs => ?_)
            refine W.eq (g2 := F0 m 120 ls [.int r19.1, va_rf (some a0)]) rfl ?_
            exact B120 _ _ _ _ _ _  hm hs (lv_sub hl [] rfl) hh
          · rw [if_neg c23] at hh
            refine r_aload_n C.1 C.2.1 dX16_edge_101 rfl (lv_at hl 1 rfl) ?_
            refine lv_lload C.1 C.2.1 dX16_edge_102 (lv_at hl 5 rfl) ?_
            refine lv_iload C.1 C.2.1 dX16_edge_104 (lv_at hl 0 rfl) ?_
            refine r_cV C X hm hs mlX16_460 mvX16_460 hh (vv := fun r => some (.int r.1)) (hp := fun r => r.2) (fun b r hg => c_X16_highOf l G r13 b _ _ r hg) rfl rfl (by simp [va_cat, vc_i, vc_l, vc_r]) (Nat.le_of_ble_eq_true rfl) (Nat.le_of_ble_eq_true rfl) hl.1 dX16_edge_106 (fun b22 r21 H locs hgr21 hh hm hs => ?_)
            refine W.eq (g2 := F0 m 109 ls [.int r21.1, va_rf (some a0)]) rfl ?_
            refine lv_goto (tgt := 120) C.1 C.2.1 dX16_edge_109 (by decide) ?_
            exact B120 _ _ _ _ _ _  hm hs (lv_sub hl [] rfl) hh
        · rw [if_pos c26] at hh
          refine r_aload_n C.1 C.2.1 dX16_edge_89 rfl (lv_at hl 1 rfl) ?_
          refine lv_iconst (v := 2) C.1 C.2.1 dX16_edge_90 (by decide) ?_
          refine r_cV C X hm hs mlX16_293 mvX16_293 hh (vv := fun r => some (.int r.1)) (hp := fun r => r.2) (fun b r hg => c_X16_refused l G r13 b _ r hg) rfl rfl (Nat.le_of_ble_eq_true rfl) (Nat.le_of_ble_eq_true rfl) (Nat.le_of_ble_eq_true rfl) hl.1 dX16_edge_91 (fun b25 r24 H locs hgr24 hh hm hs => ?_)
          refine W.eq (g2 := F0 m 94 ls [.int r24.1]) rfl ?_
          exact r_iretW hQ C hr hm hs hh dX16_edge_94
      · rw [if_pos c29] at hh
        refine r_aload_n C.1 C.2.1 dX16_edge_74 rfl (lv_at hl 1 rfl) ?_
        refine lv_iconst (v := 5) C.1 C.2.1 dX16_edge_75 (by decide) ?_
        refine r_cV C X hm hs mlX16_293 mvX16_293 hh (vv := fun r => some (.int r.1)) (hp := fun r => r.2) (fun b r hg => c_X16_refused l G r13 b _ r hg) rfl rfl (Nat.le_of_ble_eq_true rfl) (Nat.le_of_ble_eq_true rfl) (Nat.le_of_ble_eq_true rfl) hl.1 dX16_edge_76 (fun b28 r27 H locs hgr27 hh hm hs => ?_)
        refine W.eq (g2 := F0 m 79 ls [.int r27.1]) rfl ?_
        exact r_iretW hQ C hr hm hs hh dX16_edge_79
    · rw [if_pos c32] at hh
      refine r_aload_n C.1 C.2.1 dX16_edge_34 rfl (lv_at hl 0 rfl) ?_
      refine lv_iconst (v := 5) C.1 C.2.1 dX16_edge_35 (by decide) ?_
      refine r_cV C X hm hs mlX16_293 mvX16_293 hh (vv := fun r => some (.int r.1)) (hp := fun r => r.2) (fun b r hg => c_X16_refused l G h3 b _ r hg) rfl rfl (Nat.le_of_ble_eq_true rfl) (Nat.le_of_ble_eq_true rfl) (Nat.le_of_ble_eq_true rfl) hl.1 dX16_edge_36 (fun b31 r30 H locs hgr30 hh hm hs => ?_)
      refine W.eq (g2 := F0 m 39 ls [.int r30.1]) rfl ?_
      exact r_iretW hQ C hr hm hs hh dX16_edge_39
  · rw [if_pos c35] at hh
    refine r_aload_n C.1 C.2.1 dX16_edge_15 rfl (lv_at hl 0 rfl) ?_
    refine lv_iconst (v := 1) C.1 C.2.1 dX16_edge_16 (by decide) ?_
    refine r_cV C X hm hs mlX16_293 mvX16_293 hh (vv := fun r => some (.int r.1)) (hp := fun r => r.2) (fun b r hg => c_X16_refused l G h3 b _ r hg) rfl rfl (Nat.le_of_ble_eq_true rfl) (Nat.le_of_ble_eq_true rfl) (Nat.le_of_ble_eq_true rfl) hl.1 dX16_edge_17 (fun b34 r33 H locs hgr33 hh hm hs => ?_)
    refine W.eq (g2 := F0 m 20 ls [.int r33.1]) rfl ?_
    exact r_iretW hQ C hr hm hs hh dX16_edge_20
def mX16_isWide_b68 (k5 : MHp → Nat → Int64 → Int32 → Int32 → Option (Int32 × MHp)) (h : MHp) (a0 : Nat) (v1 : Int64) (v4 : Int32) (t0 : Int32) : Option (Int32 × MHp) := k5 h a0 v1 t0 (v4 + 1)
def mX16_isWide_b63 (k5 : MHp → Nat → Int64 → Int32 → Int32 → Option (Int32 × MHp)) (h : MHp) (a0 : Nat) (v1 : Int64) (v4 : Int32) : Option (Int32 × MHp) := mX16_isWide_b68 k5 h a0 v1 v4 1
def mX16_isWide_b67 (k5 : MHp → Nat → Int64 → Int32 → Int32 → Option (Int32 × MHp)) (h : MHp) (a0 : Nat) (v1 : Int64) (v4 : Int32) : Option (Int32 × MHp) := mX16_isWide_b68 k5 h a0 v1 v4 0
def mX16_isWide_l5 : Nat → MHp → Nat → Int64 → Int32 → Int32 → Option (Int32 × MHp)
  | 0, _, _, _, _, _ => none
  | n + 1, h, a0, v1, v3, v4 => (gI 17 45 h (some a0)).bind fun x1 => (gI 17 46 h (some a0)).bind fun x2 => (if (x1 * x2) ≤ v4 then (rB v3).bind fun _ => some (v3, h) else (if v3 = 0 then (rB v3).bind fun _ => some (v3, h) else (rcv 17 h (some a0)).bind fun b4 => (mX16_isShy h b4 v4).bind fun r3 => (if r3 = 0 then mX16_isWide_b63 (mX16_isWide_l5 n) h a0 v1 v4 else (mX16_has h v1 v4).bind fun r5 => (if r5 = 0 then mX16_isWide_b67 (mX16_isWide_l5 n) h a0 v1 v4 else (rcv 17 h (some a0)).bind fun b7 => (mX16_highOf h b7 v1 v4).bind fun r6 => (rcv 17 r6.2 (some a0)).bind fun b9 => (mX16_lowOf r6.2 b9 v1 v4).bind fun r8 => (gI 17 38 r8.2 (some a0)).bind fun x10 => (if (r6.1 - r8.1) < x10 then mX16_isWide_b67 (mX16_isWide_l5 n) r8.2 a0 v1 v4 else mX16_isWide_b63 (mX16_isWide_l5 n) r8.2 a0 v1 v4)))))
def mX16_isWide (h : MHp) (a0 : Nat) (a1 : Int64) : Option (Int32 × MHp) := mX16_isWide_l5 FUEL h a0 a1 1 0
set_option maxRecDepth 100000 in
set_option maxHeartbeats 4000000 in
theorem c_X16_isWide (l : Launch) (G : Env0) (h : MHp) (a0 : Nat) (a1 : Int64) (res : Int32 × MHp) (hh : mX16_isWide h a0 a1 = some res) : MG l yX16_isWide cX16_isWide 5 (some .boolean) 4 104 0 0 G h [.ref a0, .long a1] (some (.int res.1)) (res.2) := by
  refine MG_of (own := RX16) (plainFor_of_name (by decide)) rfl (Nat.le_of_ble_eq_true rfl) ?_
  intro p e s m args below meth c Q ls hQ C X hin hm hs hl hr
  have hl : lv_has ls 5 [(0, va_rf (some a0)), (1, .long a1)] := hl
  have B68 : ∀ (k5 : MHp → Nat → Int64 → Int32 → Int32 → Option (Int32 × MHp)), (∀ (h : MHp) (H : Heap) (locs : List Loc) (ls : Array Slot) (a0 : Nat) (v1 : Int64) (v3 : Int32) (v4 : Int32) , mHp (gD G) (gC G) (gB G) h H → va_S (fun q => gB G ≤ q) s.heap H locs → lv_has ls 5 [(0, va_rf (some a0)), (1, .long v1), (3, .int v3), (4, .int v4)] → k5 h a0 v1 v3 v4 = some res → W p l e ({ frames := 4, cells := 0, slots := 0, locals := 104 }) s m args below meth c H locs 0 0 Q (F0 m 5 ls [])) → ∀ (h : MHp) (H : Heap) (locs : List Loc) (ls : Array Slot) (a0 : Nat) (v1 : Int64) (v4 : Int32) (t0 : Int32) , mHp (gD G) (gC G) (gB G) h H → va_S (fun q => gB G ≤ q) s.heap H locs → lv_has ls 5 [(0, va_rf (some a0)), (1, .long v1), (4, .int v4)] → mX16_isWide_b68 k5 h a0 v1 v4 t0 = some res → W p l e ({ frames := 4, cells := 0, slots := 0, locals := 104 }) s m args below meth c H locs 0 0 Q (F0 m 68 ls [.int t0]) := by
    intro k5 hk5 h H locs ls a0 v1 v4 t0 hm hs hl hh
    unfold mX16_isWide_b68 at hh
    refine lv_istore_n (i := 3) (lv' := [(3, .int t0), (0, va_rf (some a0)), (1, .long v1), (4, .int v4)]) C.1 C.2.1 dX16_isWide_68 rfl hl (by decide) rfl (fun ls hl => ?_)
    refine lv_iinc (v := (v4 + 1)) (lv' := [(4, .int (v4 + 1)), (3, .int t0), (0, va_rf (some a0)), (1, .long v1)]) C.1 C.2.1 dX16_isWide_69 hl (k := 3) rfl rfl (by decide) rfl (fun ls hl => ?_)
    refine lv_goto (tgt := 5) C.1 C.2.1 dX16_isWide_72 (by decide) ?_
    exact hk5 _ _ _ _ _ _ _ _  hm hs (lv_sub hl [2, 3, 1, 0] rfl) hh
  have B63 : ∀ (k5 : MHp → Nat → Int64 → Int32 → Int32 → Option (Int32 × MHp)), (∀ (h : MHp) (H : Heap) (locs : List Loc) (ls : Array Slot) (a0 : Nat) (v1 : Int64) (v3 : Int32) (v4 : Int32) , mHp (gD G) (gC G) (gB G) h H → va_S (fun q => gB G ≤ q) s.heap H locs → lv_has ls 5 [(0, va_rf (some a0)), (1, .long v1), (3, .int v3), (4, .int v4)] → k5 h a0 v1 v3 v4 = some res → W p l e ({ frames := 4, cells := 0, slots := 0, locals := 104 }) s m args below meth c H locs 0 0 Q (F0 m 5 ls [])) → ∀ (h : MHp) (H : Heap) (locs : List Loc) (ls : Array Slot) (a0 : Nat) (v1 : Int64) (v4 : Int32) , mHp (gD G) (gC G) (gB G) h H → va_S (fun q => gB G ≤ q) s.heap H locs → lv_has ls 5 [(0, va_rf (some a0)), (1, .long v1), (4, .int v4)] → mX16_isWide_b63 k5 h a0 v1 v4 = some res → W p l e ({ frames := 4, cells := 0, slots := 0, locals := 104 }) s m args below meth c H locs 0 0 Q (F0 m 63 ls []) := by
    intro k5 hk5 h H locs ls a0 v1 v4 hm hs hl hh
    unfold mX16_isWide_b63 at hh
    refine lv_iconst (v := 1) C.1 C.2.1 dX16_isWide_63 (by decide) ?_
    refine lv_goto (tgt := 68) C.1 C.2.1 dX16_isWide_64 (by decide) ?_
    exact B68 _ hk5 _ _ _ _ _ _ _ _  hm hs (lv_sub hl [0, 1, 2] rfl) hh
  have B67 : ∀ (k5 : MHp → Nat → Int64 → Int32 → Int32 → Option (Int32 × MHp)), (∀ (h : MHp) (H : Heap) (locs : List Loc) (ls : Array Slot) (a0 : Nat) (v1 : Int64) (v3 : Int32) (v4 : Int32) , mHp (gD G) (gC G) (gB G) h H → va_S (fun q => gB G ≤ q) s.heap H locs → lv_has ls 5 [(0, va_rf (some a0)), (1, .long v1), (3, .int v3), (4, .int v4)] → k5 h a0 v1 v3 v4 = some res → W p l e ({ frames := 4, cells := 0, slots := 0, locals := 104 }) s m args below meth c H locs 0 0 Q (F0 m 5 ls [])) → ∀ (h : MHp) (H : Heap) (locs : List Loc) (ls : Array Slot) (a0 : Nat) (v1 : Int64) (v4 : Int32) , mHp (gD G) (gC G) (gB G) h H → va_S (fun q => gB G ≤ q) s.heap H locs → lv_has ls 5 [(0, va_rf (some a0)), (1, .long v1), (4, .int v4)] → mX16_isWide_b67 k5 h a0 v1 v4 = some res → W p l e ({ frames := 4, cells := 0, slots := 0, locals := 104 }) s m args below meth c H locs 0 0 Q (F0 m 67 ls []) := by
    intro k5 hk5 h H locs ls a0 v1 v4 hm hs hl hh
    unfold mX16_isWide_b67 at hh
    refine lv_iconst (v := 0) C.1 C.2.1 dX16_isWide_67 (by decide) ?_
    exact B68 _ hk5 _ _ _ _ _ _ _ _  hm hs (lv_sub hl [0, 1, 2] rfl) hh
  have B5 : ∀ n : Nat, ∀ (h : MHp) (H : Heap) (locs : List Loc) (ls : Array Slot) (a0 : Nat) (v1 : Int64) (v3 : Int32) (v4 : Int32) , mHp (gD G) (gC G) (gB G) h H → va_S (fun q => gB G ≤ q) s.heap H locs → lv_has ls 5 [(0, va_rf (some a0)), (1, .long v1), (3, .int v3), (4, .int v4)] → mX16_isWide_l5 n h a0 v1 v3 v4 = some res → W p l e ({ frames := 4, cells := 0, slots := 0, locals := 104 }) s m args below meth c H locs 0 0 Q (F0 m 5 ls []) := by
    intro n
    induction n with
    | zero => intro h H locs ls a0 v1 v3 v4 hm hs hl hh; cases hh
    | succ n ih =>
      intro h H locs ls a0 v1 v3 v4 hm hs hl hh
      unfold mX16_isWide_l5 at hh
      refine lv_iload C.1 C.2.1 dX16_isWide_5 (lv_at hl 3 rfl) ?_
      refine r_aload_n C.1 C.2.1 dX16_isWide_7 rfl (lv_at hl 0 rfl) ?_
      refine r_getI C hm flX16_427 dX16_isWide_8 hh (fun x1 _ hh => ?_)
      refine r_aload_n C.1 C.2.1 dX16_isWide_11 rfl (lv_at hl 0 rfl) ?_
      refine r_getI C hm flX16_430 dX16_isWide_12 hh (fun x2 _ hh => ?_)
      refine lv_imul C.1 C.2.1 dX16_isWide_15 ?_
      refine lv_icmp_ge (tgt := 75) C.1 C.2.1 dX16_isWide_16 (by decide) (fun c15 => ?_) (fun c15 => ?_)
      · rw [if_pos c15] at hh
        refine lv_iload_n C.1 C.2.1 dX16_isWide_75 rfl (lv_at hl 2 rfl) ?_
        exact r_rbretW hQ C hr hm hs hh dX16_isWide_76
      · rw [if_neg c15] at hh
        refine lv_iload_n C.1 C.2.1 dX16_isWide_19 rfl (lv_at hl 2 rfl) ?_
        refine lv_if_eq (tgt := 75) C.1 C.2.1 dX16_isWide_20 (by decide) (fun c14 => ?_) (fun c14 => ?_)
        · rw [if_pos c14] at hh
          refine lv_iload_n C.1 C.2.1 dX16_isWide_75 rfl (lv_at hl 2 rfl) ?_
          exact r_rbretW hQ C hr hm hs hh dX16_isWide_76
        · rw [if_neg c14] at hh
          refine r_aload_n C.1 C.2.1 dX16_isWide_23 rfl (lv_at hl 0 rfl) ?_
          refine lv_iload C.1 C.2.1 dX16_isWide_24 (lv_at hl 3 rfl) ?_
          refine r_cV C X hm hs mlX16_441 mvX16_441 hh (vv := fun r => some (.int r)) (hp := fun r => h) (fun b r hg => c_X16_isShy l G h b _ r hg) rfl rfl (Nat.le_of_ble_eq_true rfl) (Nat.le_of_ble_eq_true rfl) (Nat.le_of_ble_eq_true rfl) hl.1 dX16_isWide_26 (fun b4 r3 H locs hgr3 hh hm hs => ?_)
          refine W.eq (g2 := F0 m 29 ls [.int r3]) rfl ?_
          refine lv_if_eq (tgt := 63) C.1 C.2.1 dX16_isWide_29 (by decide) (fun c13 => ?_) (fun c13 => ?_)
          · rw [if_pos c13] at hh
            exact B63 _ ih _ _ _ _ _ _ _  hm hs (lv_sub hl [0, 1, 3] rfl) hh
          · rw [if_neg c13] at hh
            refine lv_lload_n C.1 C.2.1 dX16_isWide_32 rfl (lv_at hl 1 rfl) ?_
            refine lv_iload C.1 C.2.1 dX16_isWide_33 (lv_at hl 3 rfl) ?_
            refine r_cS C X hm hs mlX16_444 msX16_444 hh (vv := fun r => some (.int r)) (hp := fun r => h) (fun r hg => c_X16_has l G h _ _ r hg) rfl rfl (Nat.le_of_ble_eq_true rfl) (Nat.le_of_ble_eq_true rfl) (Nat.le_of_ble_eq_true rfl) hl.1 dX16_isWide_35 (fun r5 H locs hgr5 hh hm hs => ?_)
            refine W.eq (g2 := F0 m 38 ls [.int r5]) rfl ?_
            refine lv_if_eq (tgt := 67) C.1 C.2.1 dX16_isWide_38 (by decide) (fun c12 => ?_) (fun c12 => ?_)
            · rw [if_pos c12] at hh
              exact B67 _ ih _ _ _ _ _ _ _  hm hs (lv_sub hl [0, 1, 3] rfl) hh
            · rw [if_neg c12] at hh
              refine r_aload_n C.1 C.2.1 dX16_isWide_41 rfl (lv_at hl 0 rfl) ?_
              refine lv_lload_n C.1 C.2.1 dX16_isWide_42 rfl (lv_at hl 1 rfl) ?_
              refine lv_iload C.1 C.2.1 dX16_isWide_43 (lv_at hl 3 rfl) ?_
              refine r_cV C X hm hs mlX16_460 mvX16_460 hh (vv := fun r => some (.int r.1)) (hp := fun r => r.2) (fun b r hg => c_X16_highOf l G h b _ _ r hg) rfl rfl (Nat.le_of_ble_eq_true rfl) (Nat.le_of_ble_eq_true rfl) (Nat.le_of_ble_eq_true rfl) hl.1 dX16_isWide_45 (fun b7 r6 H locs hgr6 hh hm hs => ?_)
              refine W.eq (g2 := F0 m 48 ls [.int r6.1]) rfl ?_
              refine r_aload_n C.1 C.2.1 dX16_isWide_48 rfl (lv_at hl 0 rfl) ?_
              refine lv_lload_n C.1 C.2.1 dX16_isWide_49 rfl (lv_at hl 1 rfl) ?_
              refine lv_iload C.1 C.2.1 dX16_isWide_50 (lv_at hl 3 rfl) ?_
              refine r_cV C X hm hs mlX16_464 mvX16_464 hh (vv := fun r => some (.int r.1)) (hp := fun r => r.2) (fun b r hg => c_X16_lowOf l G r6.2 b _ _ r hg) rfl rfl (Nat.le_of_ble_eq_true rfl) (Nat.le_of_ble_eq_true rfl) (Nat.le_of_ble_eq_true rfl) hl.1 dX16_isWide_52 (fun b9 r8 H locs hgr8 hh hm hs => ?_)
              refine W.eq (g2 := F0 m 55 ls [.int r8.1, .int r6.1]) rfl ?_
              refine lv_isub C.1 C.2.1 dX16_isWide_55 ?_
              refine r_aload_n C.1 C.2.1 dX16_isWide_56 rfl (lv_at hl 0 rfl) ?_
              refine r_getI C hm flX16_85 dX16_isWide_57 hh (fun x10 _ hh => ?_)
              refine lv_icmp_lt (tgt := 67) C.1 C.2.1 dX16_isWide_60 (by decide) (fun c11 => ?_) (fun c11 => ?_)
              · rw [if_pos c11] at hh
                exact B67 _ ih _ _ _ _ _ _ _  hm hs (lv_sub hl [0, 1, 3] rfl) hh
              · rw [if_neg c11] at hh
                exact B63 _ ih _ _ _ _ _ _ _  hm hs (lv_sub hl [0, 1, 3] rfl) hh
  unfold mX16_isWide at hh
  refine lv_iconst (v := 1) C.1 C.2.1 dX16_isWide_0 (by decide) ?_
  refine lv_istore_n (i := 3) (lv' := [(3, .int 1), (0, va_rf (some a0)), (1, .long a1)]) C.1 C.2.1 dX16_isWide_1 rfl hl (by decide) rfl (fun ls hl => ?_)
  refine lv_iconst (v := 0) C.1 C.2.1 dX16_isWide_2 (by decide) ?_
  refine lv_istore (i := 4) (lv' := [(4, .int 0), (3, .int 1), (0, va_rf (some a0)), (1, .long a1)]) C.1 C.2.1 dX16_isWide_3 hl (by decide) rfl (fun ls hl => ?_)
  exact B5 FUEL _ _ _ _ _ _ _ _  hm hs (lv_sub hl [2, 3, 1, 0] rfl) hh
def mX16_wide_b80 (h : MHp) (t0 : Option Nat) (t1 : Int32) : Option (Int32 × MHp) := (rcv 17 h t0).bind fun b2 => (mX16_done h b2 t1).bind fun r1 => some (r1.1, r1.2)
def mX16_wide (h : MHp) (a0 : Nat) (a1 : Int32) (a2 : Int64) : Option (Int32 × MHp) := (pI 17 0 h (some a0) 0).bind fun h3 => (rcv 17 h3 (some a0)).bind fun b5 => (mX16_isTable h3 b5 a1).bind fun r4 => (if r4 = 0 then (rcv 17 h3 (some a0)).bind fun b27 => (mX16_refused h3 b27 1).bind fun r26 => some (r26.1, r26.2) else (gR 17 6 h3 (some a0)).bind fun x6 => (gAR 26 h3 x6 a1).bind fun x7 => (rcv 17 h3 (some a0)).bind fun b9 => (mX16_isByTwo h3 b9 x7).bind fun r8 => (if r8 = 0 then (rcv 17 h3 (some a0)).bind fun b24 => (mX16_refused h3 b24 5).bind fun r23 => some (r23.1, r23.2) else (gR 17 6 h3 (some a0)).bind fun x10 => (gAR 26 h3 x10 a1).bind fun x11 => (gR 17 42 h3 (some a0)).bind fun x12 => (rcv 17 h3 (some a0)).bind fun b14 => (mX16_counts h3 b14 x11 x12).bind fun r13 => (rcv 17 r13 (some a0)).bind fun b16 => (mX16_areBits r13 b16 a2).bind fun r15 => (if r15 = 0 then (rcv 17 r13 (some a0)).bind fun b21 => (mX16_refused r13 b21 2).bind fun r20 => some (r20.1, r20.2) else (rcv 17 r13 (some a0)).bind fun b18 => (mX16_isWide r13 b18 a2).bind fun r17 => (if r17.1 = 0 then mX16_wide_b80 r17.2 (some a0) 0 else mX16_wide_b80 r17.2 (some a0) 1))))
set_option maxRecDepth 100000 in
set_option maxHeartbeats 4000000 in
theorem c_X16_wide (l : Launch) (G : Env0) (h : MHp) (a0 : Nat) (a1 : Int32) (a2 : Int64) (res : Int32 × MHp) (hh : mX16_wide h a0 a1 a2 = some res) : MG l yX16_wide cX16_wide 4 (some .int) 5 128 0 0 G h [.ref a0, .int a1, .long a2] (some (.int res.1)) (res.2) := by
  refine MG_of (own := RX16) (plainFor_of_name (by decide)) rfl (Nat.le_of_ble_eq_true rfl) ?_
  intro p e s m args below meth c Q ls hQ C X hin hm hs hl hr
  have hl : lv_has ls 4 [(0, va_rf (some a0)), (1, .int a1), (2, .long a2)] := hl
  have B80 : ∀ (h : MHp) (H : Heap) (locs : List Loc) (ls : Array Slot) (t0 : Option Nat) (t1 : Int32) , mHp (gD G) (gC G) (gB G) h H → va_S (fun q => gB G ≤ q) s.heap H locs → lv_has ls 4 [] → mX16_wide_b80 h t0 t1 = some res → W p l e ({ frames := 5, cells := 0, slots := 0, locals := 128 }) s m args below meth c H locs 0 0 Q (F0 m 80 ls [.int t1, va_rf t0]) := by
    intro h H locs ls t0 t1 hm hs hl hh
    unfold mX16_wide_b80 at hh
    refine r_cV C X hm hs mlX16_323 mvX16_323 hh (vv := fun r => some (.int r.1)) (hp := fun r => r.2) (fun b r hg => c_X16_done l G h b _ r hg) rfl rfl (Nat.le_of_ble_eq_true rfl) (Nat.le_of_ble_eq_true rfl) (Nat.le_of_ble_eq_true rfl) hl.1 dX16_wide_80 (fun b2 r1 H locs hgr1 hh hm hs => ?_)
    refine W.eq (g2 := F0 m 83 ls [.int r1.1]) rfl ?_
    exact r_iretW hQ C hr hm hs hh dX16_wide_83
  unfold mX16_wide at hh
  refine r_aload_n C.1 C.2.1 dX16_wide_0 rfl (lv_at hl 0 rfl) ?_
  refine lv_iconst (v := 0) C.1 C.2.1 dX16_wide_1 (by decide) ?_
  refine r_putI C hm hs flX16_109 (Or.inl fm_17_0) dX16_wide_2 hh (fun h3 H locs _ hh hm hs => ?_)
  refine r_aload_n C.1 C.2.1 dX16_wide_5 rfl (lv_at hl 0 rfl) ?_
  refine lv_iload_n C.1 C.2.1 dX16_wide_6 rfl (lv_at hl 1 rfl) ?_
  refine r_cV C X hm hs mlX16_379 mvX16_379 hh (vv := fun r => some (.int r)) (hp := fun r => h3) (fun b r hg => c_X16_isTable l G h3 b _ r hg) rfl rfl (Nat.le_of_ble_eq_true rfl) (Nat.le_of_ble_eq_true rfl) (Nat.le_of_ble_eq_true rfl) hl.1 dX16_wide_7 (fun b5 r4 H locs hgr4 hh hm hs => ?_)
  refine W.eq (g2 := F0 m 10 ls [.int r4]) rfl ?_
  refine lv_if_ne (tgt := 19) C.1 C.2.1 dX16_wide_10 (by decide) (fun c28 => ?_) (fun c28 => ?_)
  · rw [if_neg c28] at hh
    refine r_aload_n C.1 C.2.1 dX16_wide_19 rfl (lv_at hl 0 rfl) ?_
    refine r_aload_n C.1 C.2.1 dX16_wide_20 rfl (lv_at hl 0 rfl) ?_
    refine r_getR C hm flX16_15 dX16_wide_21 hh (fun x6 _ hh => ?_)
    refine lv_iload_n C.1 C.2.1 dX16_wide_24 rfl (lv_at hl 1 rfl) ?_
    refine r_ald_q C hm dX16_wide_25 (kd := 26) (by decide) (t0 := 6) rfl hh (fun x7 _ hh => ?_)
    refine r_cV C X hm hs mlX16_433 mvX16_433 hh (vv := fun r => some (.int r)) (hp := fun r => h3) (fun b r hg => c_X16_isByTwo l G h3 b _ r hg) rfl rfl (Nat.le_of_ble_eq_true rfl) (Nat.le_of_ble_eq_true rfl) (Nat.le_of_ble_eq_true rfl) hl.1 dX16_wide_26 (fun b9 r8 H locs hgr8 hh hm hs => ?_)
    refine W.eq (g2 := F0 m 29 ls [.int r8]) rfl ?_
    refine lv_if_ne (tgt := 38) C.1 C.2.1 dX16_wide_29 (by decide) (fun c25 => ?_) (fun c25 => ?_)
    · rw [if_neg c25] at hh
      refine r_aload_n C.1 C.2.1 dX16_wide_38 rfl (lv_at hl 0 rfl) ?_
      refine r_aload_n C.1 C.2.1 dX16_wide_39 rfl (lv_at hl 0 rfl) ?_
      refine r_getR C hm flX16_15 dX16_wide_40 hh (fun x10 _ hh => ?_)
      refine lv_iload_n C.1 C.2.1 dX16_wide_43 rfl (lv_at hl 1 rfl) ?_
      refine r_ald_q C hm dX16_wide_44 (kd := 26) (by decide) (t0 := 6) rfl hh (fun x11 _ hh => ?_)
      refine r_aload_n C.1 C.2.1 dX16_wide_45 rfl (lv_at hl 0 rfl) ?_
      refine r_getR C hm flX16_91 dX16_wide_46 hh (fun x12 _ hh => ?_)
      refine r_cV C X hm hs mlX16_437 mvX16_437 hh (vv := fun r => none) (hp := fun r => r) (fun b r hg => c_X16_counts l G h3 b _ _ r hg) rfl rfl (Nat.le_of_ble_eq_true rfl) (Nat.le_of_ble_eq_true rfl) (Nat.le_of_ble_eq_true rfl) hl.1 dX16_wide_49 (fun b14 r13 H locs hgr13 hh hm hs => ?_)
      refine W.eq (g2 := F0 m 52 ls []) rfl ?_
      refine r_aload_n C.1 C.2.1 dX16_wide_52 rfl (lv_at hl 0 rfl) ?_
      refine lv_lload_n C.1 C.2.1 dX16_wide_53 rfl (lv_at hl 2 rfl) ?_
      refine r_cV C X hm hs mlX16_456 mvX16_456 hh (vv := fun r => some (.int r)) (hp := fun r => r13) (fun b r hg => c_X16_areBits l G r13 b _ r hg) rfl rfl (Nat.le_of_ble_eq_true rfl) (Nat.le_of_ble_eq_true rfl) (Nat.le_of_ble_eq_true rfl) hl.1 dX16_wide_54 (fun b16 r15 H locs hgr15 hh hm hs => ?_)
      refine W.eq (g2 := F0 m 57 ls [.int r15]) rfl ?_
      refine lv_if_ne (tgt := 66) C.1 C.2.1 dX16_wide_57 (by decide) (fun c22 => ?_) (fun c22 => ?_)
      · rw [if_neg c22] at hh
        refine r_aload_n C.1 C.2.1 dX16_wide_66 rfl (lv_at hl 0 rfl) ?_
        refine r_aload_n C.1 C.2.1 dX16_wide_67 rfl (lv_at hl 0 rfl) ?_
        refine lv_lload_n C.1 C.2.1 dX16_wide_68 rfl (lv_at hl 2 rfl) ?_
        refine r_cV C X hm hs mlX16_467 mvX16_467 hh (vv := fun r => some (.int r.1)) (hp := fun r => r.2) (fun b r hg => c_X16_isWide l G r13 b _ r hg) rfl rfl (by simp [va_cat, vc_i, vc_l, vc_r]) (Nat.le_of_ble_eq_true rfl) (Nat.le_of_ble_eq_true rfl) hl.1 dX16_wide_69 (fun b18 r17 H locs hgr17 hh hm hs => ?_)
        refine W.eq (g2 := F0 m 72 ls [.int r17.1, va_rf (some a0)]) rfl ?_
        refine lv_if_eq (tgt := 79) C.1 C.2.1 dX16_wide_72 (by decide) (fun c19 => ?_) (fun c19 => ?_)
        · rw [if_pos c19] at hh
          refine lv_iconst (v := 0) C.1 C.2.1 dX16_wide_79 (by decide) ?_
          exact B80 _ _ _ _ _ _  hm hs (lv_sub hl [] rfl) hh
        · rw [if_neg c19] at hh
          refine lv_iconst (v := 1) C.1 C.2.1 dX16_wide_75 (by decide) ?_
          refine lv_goto (tgt := 80) C.1 C.2.1 dX16_wide_76 (by decide) ?_
          exact B80 _ _ _ _ _ _  hm hs (lv_sub hl [] rfl) hh
      · rw [if_pos c22] at hh
        refine r_aload_n C.1 C.2.1 dX16_wide_60 rfl (lv_at hl 0 rfl) ?_
        refine lv_iconst (v := 2) C.1 C.2.1 dX16_wide_61 (by decide) ?_
        refine r_cV C X hm hs mlX16_293 mvX16_293 hh (vv := fun r => some (.int r.1)) (hp := fun r => r.2) (fun b r hg => c_X16_refused l G r13 b _ r hg) rfl rfl (Nat.le_of_ble_eq_true rfl) (Nat.le_of_ble_eq_true rfl) (Nat.le_of_ble_eq_true rfl) hl.1 dX16_wide_62 (fun b21 r20 H locs hgr20 hh hm hs => ?_)
        refine W.eq (g2 := F0 m 65 ls [.int r20.1]) rfl ?_
        exact r_iretW hQ C hr hm hs hh dX16_wide_65
    · rw [if_pos c25] at hh
      refine r_aload_n C.1 C.2.1 dX16_wide_32 rfl (lv_at hl 0 rfl) ?_
      refine lv_iconst (v := 5) C.1 C.2.1 dX16_wide_33 (by decide) ?_
      refine r_cV C X hm hs mlX16_293 mvX16_293 hh (vv := fun r => some (.int r.1)) (hp := fun r => r.2) (fun b r hg => c_X16_refused l G h3 b _ r hg) rfl rfl (Nat.le_of_ble_eq_true rfl) (Nat.le_of_ble_eq_true rfl) (Nat.le_of_ble_eq_true rfl) hl.1 dX16_wide_34 (fun b24 r23 H locs hgr23 hh hm hs => ?_)
      refine W.eq (g2 := F0 m 37 ls [.int r23.1]) rfl ?_
      exact r_iretW hQ C hr hm hs hh dX16_wide_37
  · rw [if_pos c28] at hh
    refine r_aload_n C.1 C.2.1 dX16_wide_13 rfl (lv_at hl 0 rfl) ?_
    refine lv_iconst (v := 1) C.1 C.2.1 dX16_wide_14 (by decide) ?_
    refine r_cV C X hm hs mlX16_293 mvX16_293 hh (vv := fun r => some (.int r.1)) (hp := fun r => r.2) (fun b r hg => c_X16_refused l G h3 b _ r hg) rfl rfl (Nat.le_of_ble_eq_true rfl) (Nat.le_of_ble_eq_true rfl) (Nat.le_of_ble_eq_true rfl) hl.1 dX16_wide_15 (fun b27 r26 H locs hgr26 hh hm hs => ?_)
    refine W.eq (g2 := F0 m 18 ls [.int r26.1]) rfl ?_
    exact r_iretW hQ C hr hm hs hh dX16_wide_18
def mX16_leastLost (h : MHp) (a0 : Nat) (a1 : Int32) : Option (Int32 × MHp) := (pI 17 1 h (some a0) a1).bind fun h1 => (pI 17 2 h1 (some a0) (-1)).bind fun h2 => some ((-3), h2)
set_option maxRecDepth 100000 in
set_option maxHeartbeats 4000000 in
theorem c_X16_leastLost (l : Launch) (G : Env0) (h : MHp) (a0 : Nat) (a1 : Int32) (res : Int32 × MHp) (hh : mX16_leastLost h a0 a1 = some res) : MG l yX16_leastLost cX16_leastLost 2 (some .int) 0 0 0 0 G h [.ref a0, .int a1] (some (.int res.1)) (res.2) := by
  refine MG_of (own := RX16) (plainFor_of_name (by decide)) rfl (Nat.le_of_ble_eq_true rfl) ?_
  intro p e s m args below meth c Q ls hQ C X hin hm hs hl hr
  have hl : lv_has ls 2 [(0, va_rf (some a0)), (1, .int a1)] := hl
  unfold mX16_leastLost at hh
  refine r_aload_n C.1 C.2.1 dX16_leastLost_0 rfl (lv_at hl 0 rfl) ?_
  refine lv_iload_n C.1 C.2.1 dX16_leastLost_1 rfl (lv_at hl 1 rfl) ?_
  refine r_putI C hm hs flX16_112 (Or.inl fm_17_1) dX16_leastLost_2 hh (fun h1 H locs _ hh hm hs => ?_)
  refine r_aload_n C.1 C.2.1 dX16_leastLost_5 rfl (lv_at hl 0 rfl) ?_
  refine lv_iconst (v := (-1)) C.1 C.2.1 dX16_leastLost_6 (by decide) ?_
  refine r_putI C hm hs flX16_9 (Or.inl fm_17_2) dX16_leastLost_7 hh (fun h2 H locs _ hh hm hs => ?_)
  refine lv_bipush (v := (-3)) C.1 C.2.1 dX16_leastLost_10 (by decide) ?_
  exact r_iretW hQ C hr hm hs hh dX16_leastLost_12
def mX16_least_b64 (h : MHp) (a0 : Nat) : Option (Int32 × MHp) := (rcv 17 h (some a0)).bind fun b2 => (mX16_leastLost h b2 5).bind fun r1 => some (r1.1, r1.2)
def mX16_least_b152 (k92 : MHp → Nat → Int32 → Int32 → Int32 → Option (Int32 × MHp)) (k114 : MHp → Nat → Int32 → Int32 → Int32 → Int32 → Int32 → Option (Int32 × MHp)) (h : MHp) (a0 : Nat) (v2 : Int32) (v3 : Int32) (v4 : Int32) (v6 : Int32) (t0 : Int32) (t1 : Int32) : Option (Int32 × MHp) := k114 h a0 v2 v3 v4 (t0 + t1) (v6 + 1)
def mX16_least_b222 (k92 : MHp → Nat → Int32 → Int32 → Int32 → Option (Int32 × MHp)) (h : MHp) (a0 : Nat) (v2 : Int32) (v3 : Int32) (v4 : Int32) : Option (Int32 × MHp) := k92 h a0 v2 v3 (v4 + 1)
def mX16_least_b196 (k92 : MHp → Nat → Int32 → Int32 → Int32 → Option (Int32 × MHp)) (h : MHp) (a0 : Nat) (v2 : Int32) (v3 : Int32) (v4 : Int32) (v5 : Int32) (t0 : Int32) : Option (Int32 × MHp) := (if t0 = 0 then mX16_least_b222 k92 h a0 v2 v3 v4 else (rcv 17 h (some a0)).bind fun b4 => (mX16_isWide h b4 v4.toInt64).bind fun r3 => (if r3.1 = 0 then mX16_least_b222 k92 r3.2 a0 v2 v3 v4 else mX16_least_b222 k92 r3.2 a0 v4 v5 v4))
def mX16_least_b191 (k92 : MHp → Nat → Int32 → Int32 → Int32 → Option (Int32 × MHp)) (h : MHp) (a0 : Nat) (v2 : Int32) (v3 : Int32) (v4 : Int32) (v5 : Int32) : Option (Int32 × MHp) := mX16_least_b196 k92 h a0 v2 v3 v4 v5 1
def mX16_least_b195 (k92 : MHp → Nat → Int32 → Int32 → Int32 → Option (Int32 × MHp)) (h : MHp) (a0 : Nat) (v2 : Int32) (v3 : Int32) (v4 : Int32) (v5 : Int32) : Option (Int32 × MHp) := mX16_least_b196 k92 h a0 v2 v3 v4 v5 0
def mX16_least_l114 (k92 : MHp → Nat → Int32 → Int32 → Int32 → Option (Int32 × MHp)) : Nat → MHp → Nat → Int32 → Int32 → Int32 → Int32 → Int32 → Option (Int32 × MHp)
  | 0, _, _, _, _, _, _, _ => none
  | n + 1, h, a0, v2, v3, v4, v5, v6 => (gI 17 45 h (some a0)).bind fun x7 => (gI 17 46 h (some a0)).bind fun x8 => (if (x7 * x8) ≤ v6 then (if v2 = (-2) then mX16_least_b191 k92 h a0 v2 v3 v4 v5 else (if v5 < v3 then mX16_least_b191 k92 h a0 v2 v3 v4 v5 else (if v5 = v3 then (mX16_bits h v4).bind fun r9 => (mX16_bits h v2).bind fun r10 => (if r10 ≤ r9 then mX16_least_b195 k92 h a0 v2 v3 v4 v5 else mX16_least_b191 k92 h a0 v2 v3 v4 v5) else mX16_least_b195 k92 h a0 v2 v3 v4 v5))) else (if ((v4 >>> (v6 &&& 31)) &&& 1) = 1 then (gR 17 42 h (some a0)).bind fun x15 => (gAI 20 h x15 v6).bind fun x16 => mX16_least_b152 k92 (mX16_least_l114 k92 n) h a0 v2 v3 v4 v6 v5 x16 else mX16_least_b152 k92 (mX16_least_l114 k92 n) h a0 v2 v3 v4 v6 v5 0))
def mX16_least_l92 : Nat → MHp → Nat → Int32 → Int32 → Int32 → Option (Int32 × MHp)
  | 0, _, _, _, _, _ => none
  | n + 1, h, a0, v2, v3, v4 => (gI 17 45 h (some a0)).bind fun x19 => (gI 17 46 h (some a0)).bind fun x20 => (if (1 <<< ((x19 * x20) &&& 31)) ≤ v4 then (rcv 17 h (some a0)).bind fun b22 => (mX16_done h b22 v2).bind fun r21 => some (r21.1, r21.2) else mX16_least_l114 (mX16_least_l92 n) FUEL h a0 v2 v3 v4 0 0)
def mX16_least (h : MHp) (a0 : Nat) (a1 : Int32) : Option (Int32 × MHp) := (pI 17 0 h (some a0) 0).bind fun h24 => (rcv 17 h24 (some a0)).bind fun b26 => (mX16_isTable h24 b26 a1).bind fun r25 => (if r25 = 0 then (rcv 17 h24 (some a0)).bind fun b49 => (mX16_leastLost h24 b49 1).bind fun r48 => some (r48.1, r48.2) else (gR 17 6 h24 (some a0)).bind fun x27 => (gAR 26 h24 x27 a1).bind fun x28 => (rcv 17 h24 (some a0)).bind fun b30 => (mX16_isByTwo h24 b30 x28).bind fun r29 => (if r29 = 0 then mX16_least_b64 h24 a0 else (gR 17 6 h24 (some a0)).bind fun x31 => (gAR 26 h24 x31 a1).bind fun x32 => (gI 15 1 h24 x32).bind fun x33 => (rcv 17 h24 (some a0)).bind fun b35 => (mX16_valuesOf h24 b35 x33).bind fun r34 => (gR 17 6 h24 (some a0)).bind fun x36 => (gAR 26 h24 x36 a1).bind fun x37 => (gI 15 2 h24 x37).bind fun x38 => (rcv 17 h24 (some a0)).bind fun b40 => (mX16_valuesOf h24 b40 x38).bind fun r39 => (if (r34 * r39) ≤ 12 then (gR 17 6 h24 (some a0)).bind fun x41 => (gAR 26 h24 x41 a1).bind fun x42 => (gR 17 42 h24 (some a0)).bind fun x43 => (rcv 17 h24 (some a0)).bind fun b45 => (mX16_counts h24 b45 x42 x43).bind fun r44 => mX16_least_l92 FUEL r44 a0 (-2) 0 0 else mX16_least_b64 h24 a0)))
set_option maxRecDepth 100000 in
set_option maxHeartbeats 4000000 in
theorem c_X16_least (l : Launch) (G : Env0) (h : MHp) (a0 : Nat) (a1 : Int32) (res : Int32 × MHp) (hh : mX16_least h a0 a1 = some res) : MG l yX16_least cX16_least 7 (some .int) 5 128 0 0 G h [.ref a0, .int a1] (some (.int res.1)) (res.2) := by
  refine MG_of (own := RX16) (plainFor_of_name (by decide)) rfl (Nat.le_of_ble_eq_true rfl) ?_
  intro p e s m args below meth c Q ls hQ C X hin hm hs hl hr
  have hl : lv_has ls 7 [(0, va_rf (some a0)), (1, .int a1)] := hl
  have B64 : ∀ (h : MHp) (H : Heap) (locs : List Loc) (ls : Array Slot) (a0 : Nat) , mHp (gD G) (gC G) (gB G) h H → va_S (fun q => gB G ≤ q) s.heap H locs → lv_has ls 7 [(0, va_rf (some a0))] → mX16_least_b64 h a0 = some res → W p l e ({ frames := 5, cells := 0, slots := 0, locals := 128 }) s m args below meth c H locs 0 0 Q (F0 m 64 ls []) := by
    intro h H locs ls a0 hm hs hl hh
    unfold mX16_least_b64 at hh
    refine r_aload_n C.1 C.2.1 dX16_least_64 rfl (lv_at hl 0 rfl) ?_
    refine lv_iconst (v := 5) C.1 C.2.1 dX16_least_65 (by decide) ?_
    refine r_cV C X hm hs mlX16_470 mvX16_470 hh (vv := fun r => some (.int r.1)) (hp := fun r => r.2) (fun b r hg => c_X16_leastLost l G h b _ r hg) rfl rfl (Nat.le_of_ble_eq_true rfl) (Nat.le_of_ble_eq_true rfl) (Nat.le_of_ble_eq_true rfl) hl.1 dX16_least_66 (fun b2 r1 H locs hgr1 hh hm hs => ?_)
    refine W.eq (g2 := F0 m 69 ls [.int r1.1]) rfl ?_
    exact r_iretW hQ C hr hm hs hh dX16_least_69
  have B152 : ∀ (k92 : MHp → Nat → Int32 → Int32 → Int32 → Option (Int32 × MHp)), (∀ (h : MHp) (H : Heap) (locs : List Loc) (ls : Array Slot) (a0 : Nat) (v2 : Int32) (v3 : Int32) (v4 : Int32) , mHp (gD G) (gC G) (gB G) h H → va_S (fun q => gB G ≤ q) s.heap H locs → lv_has ls 7 [(0, va_rf (some a0)), (2, .int v2), (3, .int v3), (4, .int v4)] → k92 h a0 v2 v3 v4 = some res → W p l e ({ frames := 5, cells := 0, slots := 0, locals := 128 }) s m args below meth c H locs 0 0 Q (F0 m 92 ls [])) → ∀ (k114 : MHp → Nat → Int32 → Int32 → Int32 → Int32 → Int32 → Option (Int32 × MHp)), (∀ (h : MHp) (H : Heap) (locs : List Loc) (ls : Array Slot) (a0 : Nat) (v2 : Int32) (v3 : Int32) (v4 : Int32) (v5 : Int32) (v6 : Int32) , mHp (gD G) (gC G) (gB G) h H → va_S (fun q => gB G ≤ q) s.heap H locs → lv_has ls 7 [(0, va_rf (some a0)), (2, .int v2), (3, .int v3), (4, .int v4), (5, .int v5), (6, .int v6)] → k114 h a0 v2 v3 v4 v5 v6 = some res → W p l e ({ frames := 5, cells := 0, slots := 0, locals := 128 }) s m args below meth c H locs 0 0 Q (F0 m 114 ls [])) → ∀ (h : MHp) (H : Heap) (locs : List Loc) (ls : Array Slot) (a0 : Nat) (v2 : Int32) (v3 : Int32) (v4 : Int32) (v6 : Int32) (t0 : Int32) (t1 : Int32) , mHp (gD G) (gC G) (gB G) h H → va_S (fun q => gB G ≤ q) s.heap H locs → lv_has ls 7 [(0, va_rf (some a0)), (2, .int v2), (3, .int v3), (4, .int v4), (6, .int v6)] → mX16_least_b152 k92 k114 h a0 v2 v3 v4 v6 t0 t1 = some res → W p l e ({ frames := 5, cells := 0, slots := 0, locals := 128 }) s m args below meth c H locs 0 0 Q (F0 m 152 ls [.int t1, .int t0]) := by
    intro k92 hk92 k114 hk114 h H locs ls a0 v2 v3 v4 v6 t0 t1 hm hs hl hh
    unfold mX16_least_b152 at hh
    refine lv_iadd C.1 C.2.1 dX16_least_152 ?_
    refine lv_istore (i := 5) (lv' := [(5, .int (t0 + t1)), (0, va_rf (some a0)), (2, .int v2), (3, .int v3), (4, .int v4), (6, .int v6)]) C.1 C.2.1 dX16_least_153 hl (by decide) rfl (fun ls hl => ?_)
    refine lv_iinc (v := (v6 + 1)) (lv' := [(6, .int (v6 + 1)), (5, .int (t0 + t1)), (0, va_rf (some a0)), (2, .int v2), (3, .int v3), (4, .int v4)]) C.1 C.2.1 dX16_least_155 hl (k := 5) rfl rfl (by decide) rfl (fun ls hl => ?_)
    refine lv_goto (tgt := 114) C.1 C.2.1 dX16_least_158 (by decide) ?_
    exact hk114 _ _ _ _ _ _ _ _ _ _  hm hs (lv_sub hl [2, 3, 4, 5, 1, 0] rfl) hh
  have B222 : ∀ (k92 : MHp → Nat → Int32 → Int32 → Int32 → Option (Int32 × MHp)), (∀ (h : MHp) (H : Heap) (locs : List Loc) (ls : Array Slot) (a0 : Nat) (v2 : Int32) (v3 : Int32) (v4 : Int32) , mHp (gD G) (gC G) (gB G) h H → va_S (fun q => gB G ≤ q) s.heap H locs → lv_has ls 7 [(0, va_rf (some a0)), (2, .int v2), (3, .int v3), (4, .int v4)] → k92 h a0 v2 v3 v4 = some res → W p l e ({ frames := 5, cells := 0, slots := 0, locals := 128 }) s m args below meth c H locs 0 0 Q (F0 m 92 ls [])) → ∀ (h : MHp) (H : Heap) (locs : List Loc) (ls : Array Slot) (a0 : Nat) (v2 : Int32) (v3 : Int32) (v4 : Int32) , mHp (gD G) (gC G) (gB G) h H → va_S (fun q => gB G ≤ q) s.heap H locs → lv_has ls 7 [(0, va_rf (some a0)), (2, .int v2), (3, .int v3), (4, .int v4)] → mX16_least_b222 k92 h a0 v2 v3 v4 = some res → W p l e ({ frames := 5, cells := 0, slots := 0, locals := 128 }) s m args below meth c H locs 0 0 Q (F0 m 222 ls []) := by
    intro k92 hk92 h H locs ls a0 v2 v3 v4 hm hs hl hh
    unfold mX16_least_b222 at hh
    refine lv_iinc (v := (v4 + 1)) (lv' := [(4, .int (v4 + 1)), (0, va_rf (some a0)), (2, .int v2), (3, .int v3)]) C.1 C.2.1 dX16_least_222 hl (k := 3) rfl rfl (by decide) rfl (fun ls hl => ?_)
    refine lv_goto (tgt := 92) C.1 C.2.1 dX16_least_225 (by decide) ?_
    exact hk92 _ _ _ _ _ _ _ _  hm hs (lv_sub hl [1, 2, 3, 0] rfl) hh
  have B196 : ∀ (k92 : MHp → Nat → Int32 → Int32 → Int32 → Option (Int32 × MHp)), (∀ (h : MHp) (H : Heap) (locs : List Loc) (ls : Array Slot) (a0 : Nat) (v2 : Int32) (v3 : Int32) (v4 : Int32) , mHp (gD G) (gC G) (gB G) h H → va_S (fun q => gB G ≤ q) s.heap H locs → lv_has ls 7 [(0, va_rf (some a0)), (2, .int v2), (3, .int v3), (4, .int v4)] → k92 h a0 v2 v3 v4 = some res → W p l e ({ frames := 5, cells := 0, slots := 0, locals := 128 }) s m args below meth c H locs 0 0 Q (F0 m 92 ls [])) → ∀ (h : MHp) (H : Heap) (locs : List Loc) (ls : Array Slot) (a0 : Nat) (v2 : Int32) (v3 : Int32) (v4 : Int32) (v5 : Int32) (t0 : Int32) , mHp (gD G) (gC G) (gB G) h H → va_S (fun q => gB G ≤ q) s.heap H locs → lv_has ls 7 [(0, va_rf (some a0)), (2, .int v2), (3, .int v3), (4, .int v4), (5, .int v5)] → mX16_least_b196 k92 h a0 v2 v3 v4 v5 t0 = some res → W p l e ({ frames := 5, cells := 0, slots := 0, locals := 128 }) s m args below meth c H locs 0 0 Q (F0 m 196 ls [.int t0]) := by
    intro k92 hk92 h H locs ls a0 v2 v3 v4 v5 t0 hm hs hl hh
    unfold mX16_least_b196 at hh
    refine lv_istore (i := 6) (lv' := [(6, .int t0), (0, va_rf (some a0)), (2, .int v2), (3, .int v3), (4, .int v4), (5, .int v5)]) C.1 C.2.1 dX16_least_196 hl (by decide) rfl (fun ls hl => ?_)
    refine lv_iload C.1 C.2.1 dX16_least_198 (lv_at hl 0 rfl) ?_
    refine lv_if_eq (tgt := 222) C.1 C.2.1 dX16_least_200 (by decide) (fun c6 => ?_) (fun c6 => ?_)
    · rw [if_pos c6] at hh
      exact B222 _ hk92 _ _ _ _ _ _ _ _  hm hs (lv_sub hl [1, 2, 3, 4] rfl) hh
    · rw [if_neg c6] at hh
      refine r_aload_n C.1 C.2.1 dX16_least_203 rfl (lv_at hl 1 rfl) ?_
      refine lv_iload C.1 C.2.1 dX16_least_204 (lv_at hl 4 rfl) ?_
      refine lv_i2l (v := v4.toInt64) C.1 C.2.1 dX16_least_206 rfl ?_
      refine r_cV C X hm hs mlX16_467 mvX16_467 hh (vv := fun r => some (.int r.1)) (hp := fun r => r.2) (fun b r hg => c_X16_isWide l G h b _ r hg) rfl rfl (Nat.le_of_ble_eq_true rfl) (Nat.le_of_ble_eq_true rfl) (Nat.le_of_ble_eq_true rfl) hl.1 dX16_least_207 (fun b4 r3 H locs hgr3 hh hm hs => ?_)
      refine W.eq (g2 := F0 m 210 ls [.int r3.1]) rfl ?_
      refine lv_if_ne (tgt := 216) C.1 C.2.1 dX16_least_210 (by decide) (fun c5 => ?_) (fun c5 => ?_)
      · rw [if_neg c5] at hh
        refine lv_iload C.1 C.2.1 dX16_least_216 (lv_at hl 4 rfl) ?_
        refine lv_istore_n (i := 2) (lv' := [(2, .int v4), (6, .int t0), (0, va_rf (some a0)), (3, .int v3), (4, .int v4), (5, .int v5)]) C.1 C.2.1 dX16_least_218 rfl hl (by decide) rfl (fun ls hl => ?_)
        refine lv_iload C.1 C.2.1 dX16_least_219 (lv_at hl 5 rfl) ?_
        refine lv_istore_n (i := 3) (lv' := [(3, .int v5), (2, .int v4), (6, .int t0), (0, va_rf (some a0)), (4, .int v4), (5, .int v5)]) C.1 C.2.1 dX16_least_221 rfl hl (by decide) rfl (fun ls hl => ?_)
        exact B222 _ hk92 _ _ _ _ _ _ _ _  hm hs (lv_sub hl [3, 1, 0, 4] rfl) hh
      · rw [if_pos c5] at hh
        refine lv_goto (tgt := 222) C.1 C.2.1 dX16_least_213 (by decide) ?_
        exact B222 _ hk92 _ _ _ _ _ _ _ _  hm hs (lv_sub hl [1, 2, 3, 4] rfl) hh
  have B191 : ∀ (k92 : MHp → Nat → Int32 → Int32 → Int32 → Option (Int32 × MHp)), (∀ (h : MHp) (H : Heap) (locs : List Loc) (ls : Array Slot) (a0 : Nat) (v2 : Int32) (v3 : Int32) (v4 : Int32) , mHp (gD G) (gC G) (gB G) h H → va_S (fun q => gB G ≤ q) s.heap H locs → lv_has ls 7 [(0, va_rf (some a0)), (2, .int v2), (3, .int v3), (4, .int v4)] → k92 h a0 v2 v3 v4 = some res → W p l e ({ frames := 5, cells := 0, slots := 0, locals := 128 }) s m args below meth c H locs 0 0 Q (F0 m 92 ls [])) → ∀ (h : MHp) (H : Heap) (locs : List Loc) (ls : Array Slot) (a0 : Nat) (v2 : Int32) (v3 : Int32) (v4 : Int32) (v5 : Int32) , mHp (gD G) (gC G) (gB G) h H → va_S (fun q => gB G ≤ q) s.heap H locs → lv_has ls 7 [(0, va_rf (some a0)), (2, .int v2), (3, .int v3), (4, .int v4), (5, .int v5)] → mX16_least_b191 k92 h a0 v2 v3 v4 v5 = some res → W p l e ({ frames := 5, cells := 0, slots := 0, locals := 128 }) s m args below meth c H locs 0 0 Q (F0 m 191 ls []) := by
    intro k92 hk92 h H locs ls a0 v2 v3 v4 v5 hm hs hl hh
    unfold mX16_least_b191 at hh
    refine lv_iconst (v := 1) C.1 C.2.1 dX16_least_191 (by decide) ?_
    refine lv_goto (tgt := 196) C.1 C.2.1 dX16_least_192 (by decide) ?_
    exact B196 _ hk92 _ _ _ _ _ _ _ _ _ _  hm hs (lv_sub hl [0, 1, 2, 3, 4] rfl) hh
  have B195 : ∀ (k92 : MHp → Nat → Int32 → Int32 → Int32 → Option (Int32 × MHp)), (∀ (h : MHp) (H : Heap) (locs : List Loc) (ls : Array Slot) (a0 : Nat) (v2 : Int32) (v3 : Int32) (v4 : Int32) , mHp (gD G) (gC G) (gB G) h H → va_S (fun q => gB G ≤ q) s.heap H locs → lv_has ls 7 [(0, va_rf (some a0)), (2, .int v2), (3, .int v3), (4, .int v4)] → k92 h a0 v2 v3 v4 = some res → W p l e ({ frames := 5, cells := 0, slots := 0, locals := 128 }) s m args below meth c H locs 0 0 Q (F0 m 92 ls [])) → ∀ (h : MHp) (H : Heap) (locs : List Loc) (ls : Array Slot) (a0 : Nat) (v2 : Int32) (v3 : Int32) (v4 : Int32) (v5 : Int32) , mHp (gD G) (gC G) (gB G) h H → va_S (fun q => gB G ≤ q) s.heap H locs → lv_has ls 7 [(0, va_rf (some a0)), (2, .int v2), (3, .int v3), (4, .int v4), (5, .int v5)] → mX16_least_b195 k92 h a0 v2 v3 v4 v5 = some res → W p l e ({ frames := 5, cells := 0, slots := 0, locals := 128 }) s m args below meth c H locs 0 0 Q (F0 m 195 ls []) := by
    intro k92 hk92 h H locs ls a0 v2 v3 v4 v5 hm hs hl hh
    unfold mX16_least_b195 at hh
    refine lv_iconst (v := 0) C.1 C.2.1 dX16_least_195 (by decide) ?_
    exact B196 _ hk92 _ _ _ _ _ _ _ _ _ _  hm hs (lv_sub hl [0, 1, 2, 3, 4] rfl) hh
  have B114 : ∀ (k92 : MHp → Nat → Int32 → Int32 → Int32 → Option (Int32 × MHp)), (∀ (h : MHp) (H : Heap) (locs : List Loc) (ls : Array Slot) (a0 : Nat) (v2 : Int32) (v3 : Int32) (v4 : Int32) , mHp (gD G) (gC G) (gB G) h H → va_S (fun q => gB G ≤ q) s.heap H locs → lv_has ls 7 [(0, va_rf (some a0)), (2, .int v2), (3, .int v3), (4, .int v4)] → k92 h a0 v2 v3 v4 = some res → W p l e ({ frames := 5, cells := 0, slots := 0, locals := 128 }) s m args below meth c H locs 0 0 Q (F0 m 92 ls [])) → ∀ n : Nat, ∀ (h : MHp) (H : Heap) (locs : List Loc) (ls : Array Slot) (a0 : Nat) (v2 : Int32) (v3 : Int32) (v4 : Int32) (v5 : Int32) (v6 : Int32) , mHp (gD G) (gC G) (gB G) h H → va_S (fun q => gB G ≤ q) s.heap H locs → lv_has ls 7 [(0, va_rf (some a0)), (2, .int v2), (3, .int v3), (4, .int v4), (5, .int v5), (6, .int v6)] → mX16_least_l114 k92 n h a0 v2 v3 v4 v5 v6 = some res → W p l e ({ frames := 5, cells := 0, slots := 0, locals := 128 }) s m args below meth c H locs 0 0 Q (F0 m 114 ls []) := by
    intro k92 hk92 n
    induction n with
    | zero => intro h H locs ls a0 v2 v3 v4 v5 v6 hm hs hl hh; cases hh
    | succ n ih =>
      intro h H locs ls a0 v2 v3 v4 v5 v6 hm hs hl hh
      unfold mX16_least_l114 at hh
      refine lv_iload C.1 C.2.1 dX16_least_114 (lv_at hl 5 rfl) ?_
      refine r_aload_n C.1 C.2.1 dX16_least_116 rfl (lv_at hl 0 rfl) ?_
      refine r_getI C hm flX16_427 dX16_least_117 hh (fun x7 _ hh => ?_)
      refine r_aload_n C.1 C.2.1 dX16_least_120 rfl (lv_at hl 0 rfl) ?_
      refine r_getI C hm flX16_430 dX16_least_121 hh (fun x8 _ hh => ?_)
      refine lv_imul C.1 C.2.1 dX16_least_124 ?_
      refine lv_icmp_ge (tgt := 161) C.1 C.2.1 dX16_least_125 (by decide) (fun c18 => ?_) (fun c18 => ?_)
      · rw [if_pos c18] at hh
        refine lv_iload_n C.1 C.2.1 dX16_least_161 rfl (lv_at hl 1 rfl) ?_
        refine lv_bipush (v := (-2)) C.1 C.2.1 dX16_least_162 (by decide) ?_
        refine lv_icmp_eq (tgt := 191) C.1 C.2.1 dX16_least_164 (by decide) (fun c14 => ?_) (fun c14 => ?_)
        · rw [if_pos c14] at hh
          exact B191 _ hk92 _ _ _ _ _ _ _ _ _  hm hs (lv_sub hl [0, 1, 2, 3, 4] rfl) hh
        · rw [if_neg c14] at hh
          refine lv_iload C.1 C.2.1 dX16_least_167 (lv_at hl 4 rfl) ?_
          refine lv_iload_n C.1 C.2.1 dX16_least_169 rfl (lv_at hl 2 rfl) ?_
          refine lv_icmp_lt (tgt := 191) C.1 C.2.1 dX16_least_170 (by decide) (fun c13 => ?_) (fun c13 => ?_)
          · rw [if_pos c13] at hh
            exact B191 _ hk92 _ _ _ _ _ _ _ _ _  hm hs (lv_sub hl [0, 1, 2, 3, 4] rfl) hh
          · rw [if_neg c13] at hh
            refine lv_iload C.1 C.2.1 dX16_least_173 (lv_at hl 4 rfl) ?_
            refine lv_iload_n C.1 C.2.1 dX16_least_175 rfl (lv_at hl 2 rfl) ?_
            refine lv_icmp_ne (tgt := 195) C.1 C.2.1 dX16_least_176 (by decide) (fun c12 => ?_) (fun c12 => ?_)
            · rw [if_neg c12] at hh
              exact B195 _ hk92 _ _ _ _ _ _ _ _ _  hm hs (lv_sub hl [0, 1, 2, 3, 4] rfl) hh
            · rw [if_pos c12] at hh
              refine lv_iload C.1 C.2.1 dX16_least_179 (lv_at hl 3 rfl) ?_
              refine r_cS C X hm hs mlX16_369 msX16_369 hh (vv := fun r => some (.int r)) (hp := fun r => h) (fun r hg => c_X16_bits l G h _ r hg) rfl rfl (Nat.le_of_ble_eq_true rfl) (Nat.le_of_ble_eq_true rfl) (Nat.le_of_ble_eq_true rfl) hl.1 dX16_least_181 (fun r9 H locs hgr9 hh hm hs => ?_)
              refine W.eq (g2 := F0 m 184 ls [.int r9]) rfl ?_
              refine lv_iload_n C.1 C.2.1 dX16_least_184 rfl (lv_at hl 1 rfl) ?_
              refine r_cS C X hm hs mlX16_369 msX16_369 hh (vv := fun r => some (.int r)) (hp := fun r => h) (fun r hg => c_X16_bits l G h _ r hg) rfl rfl (Nat.le_of_ble_eq_true rfl) (Nat.le_of_ble_eq_true rfl) (Nat.le_of_ble_eq_true rfl) hl.1 dX16_least_185 (fun r10 H locs hgr10 hh hm hs => ?_)
              refine W.eq (g2 := F0 m 188 ls [.int r10, .int r9]) rfl ?_
              refine lv_icmp_ge (tgt := 195) C.1 C.2.1 dX16_least_188 (by decide) (fun c11 => ?_) (fun c11 => ?_)
              · rw [if_pos c11] at hh
                exact B195 _ hk92 _ _ _ _ _ _ _ _ _  hm hs (lv_sub hl [0, 1, 2, 3, 4] rfl) hh
              · rw [if_neg c11] at hh
                exact B191 _ hk92 _ _ _ _ _ _ _ _ _  hm hs (lv_sub hl [0, 1, 2, 3, 4] rfl) hh
      · rw [if_neg c18] at hh
        refine lv_iload C.1 C.2.1 dX16_least_128 (lv_at hl 4 rfl) ?_
        refine lv_iload C.1 C.2.1 dX16_least_130 (lv_at hl 3 rfl) ?_
        refine lv_iload C.1 C.2.1 dX16_least_132 (lv_at hl 5 rfl) ?_
        refine lv_ishr C.1 C.2.1 dX16_least_134 ?_
        refine lv_iconst (v := 1) C.1 C.2.1 dX16_least_135 (by decide) ?_
        refine lv_iand C.1 C.2.1 dX16_least_136 ?_
        refine lv_iconst (v := 1) C.1 C.2.1 dX16_least_137 (by decide) ?_
        refine lv_icmp_ne (tgt := 151) C.1 C.2.1 dX16_least_138 (by decide) (fun c17 => ?_) (fun c17 => ?_)
        · rw [if_neg c17] at hh
          refine lv_iconst (v := 0) C.1 C.2.1 dX16_least_151 (by decide) ?_
          exact B152 _ hk92 _ ih _ _ _ _ _ _ _ _ _ _ _  hm hs (lv_sub hl [0, 1, 2, 3, 5] rfl) hh
        · rw [if_pos c17] at hh
          refine r_aload_n C.1 C.2.1 dX16_least_141 rfl (lv_at hl 0 rfl) ?_
          refine r_getR C hm flX16_91 dX16_least_142 hh (fun x15 _ hh => ?_)
          refine lv_iload C.1 C.2.1 dX16_least_145 (lv_at hl 5 rfl) ?_
          refine r_ald C hm dX16_least_147 hh (fun x16 _ hh => ?_)
          refine lv_goto (tgt := 152) C.1 C.2.1 dX16_least_148 (by decide) ?_
          exact B152 _ hk92 _ ih _ _ _ _ _ _ _ _ _ _ _  hm hs (lv_sub hl [0, 1, 2, 3, 5] rfl) hh
  have B92 : ∀ n : Nat, ∀ (h : MHp) (H : Heap) (locs : List Loc) (ls : Array Slot) (a0 : Nat) (v2 : Int32) (v3 : Int32) (v4 : Int32) , mHp (gD G) (gC G) (gB G) h H → va_S (fun q => gB G ≤ q) s.heap H locs → lv_has ls 7 [(0, va_rf (some a0)), (2, .int v2), (3, .int v3), (4, .int v4)] → mX16_least_l92 n h a0 v2 v3 v4 = some res → W p l e ({ frames := 5, cells := 0, slots := 0, locals := 128 }) s m args below meth c H locs 0 0 Q (F0 m 92 ls []) := by
    intro n
    induction n with
    | zero => intro h H locs ls a0 v2 v3 v4 hm hs hl hh; cases hh
    | succ n ih =>
      intro h H locs ls a0 v2 v3 v4 hm hs hl hh
      unfold mX16_least_l92 at hh
      refine lv_iload C.1 C.2.1 dX16_least_92 (lv_at hl 3 rfl) ?_
      refine lv_iconst (v := 1) C.1 C.2.1 dX16_least_94 (by decide) ?_
      refine r_aload_n C.1 C.2.1 dX16_least_95 rfl (lv_at hl 0 rfl) ?_
      refine r_getI C hm flX16_427 dX16_least_96 hh (fun x19 _ hh => ?_)
      refine r_aload_n C.1 C.2.1 dX16_least_99 rfl (lv_at hl 0 rfl) ?_
      refine r_getI C hm flX16_430 dX16_least_100 hh (fun x20 _ hh => ?_)
      refine lv_imul C.1 C.2.1 dX16_least_103 ?_
      refine lv_ishl C.1 C.2.1 dX16_least_104 ?_
      refine lv_icmp_ge (tgt := 228) C.1 C.2.1 dX16_least_105 (by decide) (fun c23 => ?_) (fun c23 => ?_)
      · rw [if_pos c23] at hh
        refine r_aload_n C.1 C.2.1 dX16_least_228 rfl (lv_at hl 0 rfl) ?_
        refine lv_iload_n C.1 C.2.1 dX16_least_229 rfl (lv_at hl 1 rfl) ?_
        refine r_cV C X hm hs mlX16_323 mvX16_323 hh (vv := fun r => some (.int r.1)) (hp := fun r => r.2) (fun b r hg => c_X16_done l G h b _ r hg) rfl rfl (Nat.le_of_ble_eq_true rfl) (Nat.le_of_ble_eq_true rfl) (Nat.le_of_ble_eq_true rfl) hl.1 dX16_least_230 (fun b22 r21 H locs hgr21 hh hm hs => ?_)
        refine W.eq (g2 := F0 m 233 ls [.int r21.1]) rfl ?_
        exact r_iretW hQ C hr hm hs hh dX16_least_233
      · rw [if_neg c23] at hh
        refine lv_iconst (v := 0) C.1 C.2.1 dX16_least_108 (by decide) ?_
        refine lv_istore (i := 5) (lv' := [(5, .int 0), (0, va_rf (some a0)), (2, .int v2), (3, .int v3), (4, .int v4)]) C.1 C.2.1 dX16_least_109 hl (by decide) rfl (fun ls hl => ?_)
        refine lv_iconst (v := 0) C.1 C.2.1 dX16_least_111 (by decide) ?_
        refine lv_istore (i := 6) (lv' := [(6, .int 0), (5, .int 0), (0, va_rf (some a0)), (2, .int v2), (3, .int v3), (4, .int v4)]) C.1 C.2.1 dX16_least_112 hl (by decide) rfl (fun ls hl => ?_)
        exact B114 _ ih FUEL _ _ _ _ _ _ _ _ _ _  hm hs (lv_sub hl [2, 3, 4, 5, 1, 0] rfl) hh
  unfold mX16_least at hh
  refine r_aload_n C.1 C.2.1 dX16_least_0 rfl (lv_at hl 0 rfl) ?_
  refine lv_iconst (v := 0) C.1 C.2.1 dX16_least_1 (by decide) ?_
  refine r_putI C hm hs flX16_109 (Or.inl fm_17_0) dX16_least_2 hh (fun h24 H locs _ hh hm hs => ?_)
  refine r_aload_n C.1 C.2.1 dX16_least_5 rfl (lv_at hl 0 rfl) ?_
  refine lv_iload_n C.1 C.2.1 dX16_least_6 rfl (lv_at hl 1 rfl) ?_
  refine r_cV C X hm hs mlX16_379 mvX16_379 hh (vv := fun r => some (.int r)) (hp := fun r => h24) (fun b r hg => c_X16_isTable l G h24 b _ r hg) rfl rfl (Nat.le_of_ble_eq_true rfl) (Nat.le_of_ble_eq_true rfl) (Nat.le_of_ble_eq_true rfl) hl.1 dX16_least_7 (fun b26 r25 H locs hgr25 hh hm hs => ?_)
  refine W.eq (g2 := F0 m 10 ls [.int r25]) rfl ?_
  refine lv_if_ne (tgt := 19) C.1 C.2.1 dX16_least_10 (by decide) (fun c50 => ?_) (fun c50 => ?_)
  · rw [if_neg c50] at hh
    refine r_aload_n C.1 C.2.1 dX16_least_19 rfl (lv_at hl 0 rfl) ?_
    refine r_aload_n C.1 C.2.1 dX16_least_20 rfl (lv_at hl 0 rfl) ?_
    refine r_getR C hm flX16_15 dX16_least_21 hh (fun x27 _ hh => ?_)
    refine lv_iload_n C.1 C.2.1 dX16_least_24 rfl (lv_at hl 1 rfl) ?_
    refine r_ald_q C hm dX16_least_25 (kd := 26) (by decide) (t0 := 6) rfl hh (fun x28 _ hh => ?_)
    refine r_cV C X hm hs mlX16_433 mvX16_433 hh (vv := fun r => some (.int r)) (hp := fun r => h24) (fun b r hg => c_X16_isByTwo l G h24 b _ r hg) rfl rfl (Nat.le_of_ble_eq_true rfl) (Nat.le_of_ble_eq_true rfl) (Nat.le_of_ble_eq_true rfl) hl.1 dX16_least_26 (fun b30 r29 H locs hgr29 hh hm hs => ?_)
    refine W.eq (g2 := F0 m 29 ls [.int r29]) rfl ?_
    refine lv_if_eq (tgt := 64) C.1 C.2.1 dX16_least_29 (by decide) (fun c47 => ?_) (fun c47 => ?_)
    · rw [if_pos c47] at hh
      exact B64 _ _ _ _ _  hm hs (lv_sub hl [0] rfl) hh
    · rw [if_neg c47] at hh
      refine r_aload_n C.1 C.2.1 dX16_least_32 rfl (lv_at hl 0 rfl) ?_
      refine r_aload_n C.1 C.2.1 dX16_least_33 rfl (lv_at hl 0 rfl) ?_
      refine r_getR C hm flX16_15 dX16_least_34 hh (fun x31 _ hh => ?_)
      refine lv_iload_n C.1 C.2.1 dX16_least_37 rfl (lv_at hl 1 rfl) ?_
      refine r_ald_q C hm dX16_least_38 (kd := 26) (by decide) (t0 := 6) rfl hh (fun x32 _ hh => ?_)
      refine r_getI C hm flX16_279 dX16_least_39 hh (fun x33 _ hh => ?_)
      refine r_cV C X hm hs mlX16_382 mvX16_382 hh (vv := fun r => some (.int r)) (hp := fun r => h24) (fun b r hg => c_X16_valuesOf l G h24 b _ r hg) rfl rfl (Nat.le_of_ble_eq_true rfl) (Nat.le_of_ble_eq_true rfl) (Nat.le_of_ble_eq_true rfl) hl.1 dX16_least_42 (fun b35 r34 H locs hgr34 hh hm hs => ?_)
      refine W.eq (g2 := F0 m 45 ls [.int r34]) rfl ?_
      refine r_aload_n C.1 C.2.1 dX16_least_45 rfl (lv_at hl 0 rfl) ?_
      refine r_aload_n C.1 C.2.1 dX16_least_46 rfl (lv_at hl 0 rfl) ?_
      refine r_getR C hm flX16_15 dX16_least_47 hh (fun x36 _ hh => ?_)
      refine lv_iload_n C.1 C.2.1 dX16_least_50 rfl (lv_at hl 1 rfl) ?_
      refine r_ald_q C hm dX16_least_51 (kd := 26) (by decide) (t0 := 6) rfl hh (fun x37 _ hh => ?_)
      refine r_getI C hm flX16_281 dX16_least_52 hh (fun x38 _ hh => ?_)
      refine r_cV C X hm hs mlX16_382 mvX16_382 hh (vv := fun r => some (.int r)) (hp := fun r => h24) (fun b r hg => c_X16_valuesOf l G h24 b _ r hg) rfl rfl (Nat.le_of_ble_eq_true rfl) (Nat.le_of_ble_eq_true rfl) (Nat.le_of_ble_eq_true rfl) hl.1 dX16_least_55 (fun b40 r39 H locs hgr39 hh hm hs => ?_)
      refine W.eq (g2 := F0 m 58 ls [.int r39, .int r34]) rfl ?_
      refine lv_imul C.1 C.2.1 dX16_least_58 ?_
      refine lv_bipush (v := 12) C.1 C.2.1 dX16_least_59 (by decide) ?_
      refine lv_icmp_le (tgt := 70) C.1 C.2.1 dX16_least_61 (by decide) (fun c46 => ?_) (fun c46 => ?_)
      · rw [if_pos c46] at hh
        refine r_aload_n C.1 C.2.1 dX16_least_70 rfl (lv_at hl 0 rfl) ?_
        refine r_aload_n C.1 C.2.1 dX16_least_71 rfl (lv_at hl 0 rfl) ?_
        refine r_getR C hm flX16_15 dX16_least_72 hh (fun x41 _ hh => ?_)
        refine lv_iload_n C.1 C.2.1 dX16_least_75 rfl (lv_at hl 1 rfl) ?_
        refine r_ald_q C hm dX16_least_76 (kd := 26) (by decide) (t0 := 6) rfl hh (fun x42 _ hh => ?_)
        refine r_aload_n C.1 C.2.1 dX16_least_77 rfl (lv_at hl 0 rfl) ?_
        refine r_getR C hm flX16_91 dX16_least_78 hh (fun x43 _ hh => ?_)
        refine r_cV C X hm hs mlX16_437 mvX16_437 hh (vv := fun r => none) (hp := fun r => r) (fun b r hg => c_X16_counts l G h24 b _ _ r hg) rfl rfl (Nat.le_of_ble_eq_true rfl) (Nat.le_of_ble_eq_true rfl) (Nat.le_of_ble_eq_true rfl) hl.1 dX16_least_81 (fun b45 r44 H locs hgr44 hh hm hs => ?_)
        refine W.eq (g2 := F0 m 84 ls []) rfl ?_
        refine lv_bipush (v := (-2)) C.1 C.2.1 dX16_least_84 (by decide) ?_
        refine lv_istore_n (i := 2) (lv' := [(2, .int (-2)), (0, va_rf (some a0)), (1, .int a1)]) C.1 C.2.1 dX16_least_86 rfl hl (by decide) rfl (fun ls hl => ?_)
        refine lv_iconst (v := 0) C.1 C.2.1 dX16_least_87 (by decide) ?_
        refine lv_istore_n (i := 3) (lv' := [(3, .int 0), (2, .int (-2)), (0, va_rf (some a0)), (1, .int a1)]) C.1 C.2.1 dX16_least_88 rfl hl (by decide) rfl (fun ls hl => ?_)
        refine lv_iconst (v := 0) C.1 C.2.1 dX16_least_89 (by decide) ?_
        refine lv_istore (i := 4) (lv' := [(4, .int 0), (3, .int 0), (2, .int (-2)), (0, va_rf (some a0)), (1, .int a1)]) C.1 C.2.1 dX16_least_90 hl (by decide) rfl (fun ls hl => ?_)
        exact B92 FUEL _ _ _ _ _ _ _ _  hm hs (lv_sub hl [3, 2, 1, 0] rfl) hh
      · rw [if_neg c46] at hh
        exact B64 _ _ _ _ _  hm hs (lv_sub hl [0] rfl) hh
  · rw [if_pos c50] at hh
    refine r_aload_n C.1 C.2.1 dX16_least_13 rfl (lv_at hl 0 rfl) ?_
    refine lv_iconst (v := 1) C.1 C.2.1 dX16_least_14 (by decide) ?_
    refine r_cV C X hm hs mlX16_470 mvX16_470 hh (vv := fun r => some (.int r.1)) (hp := fun r => r.2) (fun b r hg => c_X16_leastLost l G h24 b _ r hg) rfl rfl (Nat.le_of_ble_eq_true rfl) (Nat.le_of_ble_eq_true rfl) (Nat.le_of_ble_eq_true rfl) hl.1 dX16_least_15 (fun b49 r48 H locs hgr48 hh hm hs => ?_)
    refine W.eq (g2 := F0 m 18 ls [.int r48.1]) rfl ?_
    exact r_iretW hQ C hr hm hs hh dX16_least_18
def mX16_differing_b21 (h : MHp) (a0 : Nat) : Option (Int32 × MHp) := (rcv 17 h (some a0)).bind fun b2 => (mX16_refused h b2 1).bind fun r1 => some (r1.1, r1.2)
def mX16_differing_b83 (h : MHp) (a0 : Nat) : Option (Int32 × MHp) := (rcv 17 h (some a0)).bind fun b4 => (mX16_refused h b4 5).bind fun r3 => some (r3.1, r3.2)
def mX16_differing_b166 (k114 : MHp → Nat → Int32 → Int32 → Option (Int32 × MHp)) (h : MHp) (a0 : Nat) (v6 : Int32) (t0 : Int32) (t1 : Int32) : Option (Int32 × MHp) := k114 h a0 (t0 + t1) (v6 + 1)
def mX16_differing_l114 : Nat → MHp → Nat → Int32 → Int32 → Option (Int32 × MHp)
  | 0, _, _, _, _ => none
  | n + 1, h, a0, v5, v6 => (gI 17 45 h (some a0)).bind fun x5 => (gI 17 46 h (some a0)).bind fun x6 => (if (x5 * x6) ≤ v6 then (rcv 17 h (some a0)).bind fun b8 => (mX16_done h b8 v5).bind fun r7 => some (r7.1, r7.2) else (gR 17 42 h (some a0)).bind fun x9 => (gAI 20 h x9 v6).bind fun x10 => (gR 17 43 h (some a0)).bind fun x11 => (gAI 20 h x11 v6).bind fun x12 => (mJ9_abs_0f7a4 h (x10 - x12)).bind fun r13 => (gI 17 37 h (some a0)).bind fun x14 => (mX16_in h r13 1 (x14 - 1)).bind fun r15 => (if r15 = 0 then mX16_differing_b166 (mX16_differing_l114 n) h a0 v6 v5 0 else mX16_differing_b166 (mX16_differing_l114 n) h a0 v6 v5 1))
def mX16_differing (h : MHp) (a0 : Nat) (a1 : Int32) (a2 : Int32) : Option (Int32 × MHp) := (pI 17 0 h (some a0) 0).bind fun h18 => (rcv 17 h18 (some a0)).bind fun b20 => (mX16_isTable h18 b20 a1).bind fun r19 => (if r19 = 0 then mX16_differing_b21 h18 a0 else (rcv 17 h18 (some a0)).bind fun b22 => (mX16_isTable h18 b22 a2).bind fun r21 => (if r21 = 0 then mX16_differing_b21 h18 a0 else (gR 17 6 h18 (some a0)).bind fun x23 => (gAR 26 h18 x23 a1).bind fun x24 => (gR 17 6 h18 (some a0)).bind fun x25 => (gAR 26 h18 x25 a2).bind fun x26 => (gI 15 0 h18 x24).bind fun x27 => (if x27 = (-1) then (gI 15 0 h18 x26).bind fun x28 => (if x28 = (-1) then (gI 15 1 h18 x24).bind fun x29 => (gI 15 1 h18 x26).bind fun x30 => (if x29 = x30 then (gI 15 2 h18 x24).bind fun x31 => (gI 15 2 h18 x26).bind fun x32 => (if x31 = x32 then (gR 17 42 h18 (some a0)).bind fun x33 => (rcv 17 h18 (some a0)).bind fun b35 => (mX16_counts h18 b35 x24 x33).bind fun r34 => (gR 17 43 r34 (some a0)).bind fun x36 => (rcv 17 r34 (some a0)).bind fun b38 => (mX16_counts r34 b38 x26 x36).bind fun r37 => mX16_differing_l114 FUEL r37 a0 0 0 else mX16_differing_b83 h18 a0) else mX16_differing_b83 h18 a0) else mX16_differing_b83 h18 a0) else mX16_differing_b83 h18 a0)))
set_option maxRecDepth 100000 in
set_option maxHeartbeats 4000000 in
theorem c_X16_differing (l : Launch) (G : Env0) (h : MHp) (a0 : Nat) (a1 : Int32) (a2 : Int32) (res : Int32 × MHp) (hh : mX16_differing h a0 a1 a2 = some res) : MG l yX16_differing cX16_differing 7 (some .int) 4 100 0 0 G h [.ref a0, .int a1, .int a2] (some (.int res.1)) (res.2) := by
  refine MG_of (own := RX16) (plainFor_of_name (by decide)) rfl (Nat.le_of_ble_eq_true rfl) ?_
  intro p e s m args below meth c Q ls hQ C X hin hm hs hl hr
  have hl : lv_has ls 7 [(0, va_rf (some a0)), (1, .int a1), (2, .int a2)] := hl
  have B21 : ∀ (h : MHp) (H : Heap) (locs : List Loc) (ls : Array Slot) (a0 : Nat) , mHp (gD G) (gC G) (gB G) h H → va_S (fun q => gB G ≤ q) s.heap H locs → lv_has ls 7 [(0, va_rf (some a0))] → mX16_differing_b21 h a0 = some res → W p l e ({ frames := 4, cells := 0, slots := 0, locals := 100 }) s m args below meth c H locs 0 0 Q (F0 m 21 ls []) := by
    intro h H locs ls a0 hm hs hl hh
    unfold mX16_differing_b21 at hh
    refine r_aload_n C.1 C.2.1 dX16_differing_21 rfl (lv_at hl 0 rfl) ?_
    refine lv_iconst (v := 1) C.1 C.2.1 dX16_differing_22 (by decide) ?_
    refine r_cV C X hm hs mlX16_293 mvX16_293 hh (vv := fun r => some (.int r.1)) (hp := fun r => r.2) (fun b r hg => c_X16_refused l G h b _ r hg) rfl rfl (Nat.le_of_ble_eq_true rfl) (Nat.le_of_ble_eq_true rfl) (Nat.le_of_ble_eq_true rfl) hl.1 dX16_differing_23 (fun b2 r1 H locs hgr1 hh hm hs => ?_)
    refine W.eq (g2 := F0 m 26 ls [.int r1.1]) rfl ?_
    exact r_iretW hQ C hr hm hs hh dX16_differing_26
  have B83 : ∀ (h : MHp) (H : Heap) (locs : List Loc) (ls : Array Slot) (a0 : Nat) , mHp (gD G) (gC G) (gB G) h H → va_S (fun q => gB G ≤ q) s.heap H locs → lv_has ls 7 [(0, va_rf (some a0))] → mX16_differing_b83 h a0 = some res → W p l e ({ frames := 4, cells := 0, slots := 0, locals := 100 }) s m args below meth c H locs 0 0 Q (F0 m 83 ls []) := by
    intro h H locs ls a0 hm hs hl hh
    unfold mX16_differing_b83 at hh
    refine r_aload_n C.1 C.2.1 dX16_differing_83 rfl (lv_at hl 0 rfl) ?_
    refine lv_iconst (v := 5) C.1 C.2.1 dX16_differing_84 (by decide) ?_
    refine r_cV C X hm hs mlX16_293 mvX16_293 hh (vv := fun r => some (.int r.1)) (hp := fun r => r.2) (fun b r hg => c_X16_refused l G h b _ r hg) rfl rfl (Nat.le_of_ble_eq_true rfl) (Nat.le_of_ble_eq_true rfl) (Nat.le_of_ble_eq_true rfl) hl.1 dX16_differing_85 (fun b4 r3 H locs hgr3 hh hm hs => ?_)
    refine W.eq (g2 := F0 m 88 ls [.int r3.1]) rfl ?_
    exact r_iretW hQ C hr hm hs hh dX16_differing_88
  have B166 : ∀ (k114 : MHp → Nat → Int32 → Int32 → Option (Int32 × MHp)), (∀ (h : MHp) (H : Heap) (locs : List Loc) (ls : Array Slot) (a0 : Nat) (v5 : Int32) (v6 : Int32) , mHp (gD G) (gC G) (gB G) h H → va_S (fun q => gB G ≤ q) s.heap H locs → lv_has ls 7 [(0, va_rf (some a0)), (5, .int v5), (6, .int v6)] → k114 h a0 v5 v6 = some res → W p l e ({ frames := 4, cells := 0, slots := 0, locals := 100 }) s m args below meth c H locs 0 0 Q (F0 m 114 ls [])) → ∀ (h : MHp) (H : Heap) (locs : List Loc) (ls : Array Slot) (a0 : Nat) (v6 : Int32) (t0 : Int32) (t1 : Int32) , mHp (gD G) (gC G) (gB G) h H → va_S (fun q => gB G ≤ q) s.heap H locs → lv_has ls 7 [(0, va_rf (some a0)), (6, .int v6)] → mX16_differing_b166 k114 h a0 v6 t0 t1 = some res → W p l e ({ frames := 4, cells := 0, slots := 0, locals := 100 }) s m args below meth c H locs 0 0 Q (F0 m 166 ls [.int t1, .int t0]) := by
    intro k114 hk114 h H locs ls a0 v6 t0 t1 hm hs hl hh
    unfold mX16_differing_b166 at hh
    refine lv_iadd C.1 C.2.1 dX16_differing_166 ?_
    refine lv_istore (i := 5) (lv' := [(5, .int (t0 + t1)), (0, va_rf (some a0)), (6, .int v6)]) C.1 C.2.1 dX16_differing_167 hl (by decide) rfl (fun ls hl => ?_)
    refine lv_iinc (v := (v6 + 1)) (lv' := [(6, .int (v6 + 1)), (5, .int (t0 + t1)), (0, va_rf (some a0))]) C.1 C.2.1 dX16_differing_169 hl (k := 2) rfl rfl (by decide) rfl (fun ls hl => ?_)
    refine lv_goto (tgt := 114) C.1 C.2.1 dX16_differing_172 (by decide) ?_
    exact hk114 _ _ _ _ _ _ _  hm hs (lv_sub hl [2, 1, 0] rfl) hh
  have B114 : ∀ n : Nat, ∀ (h : MHp) (H : Heap) (locs : List Loc) (ls : Array Slot) (a0 : Nat) (v5 : Int32) (v6 : Int32) , mHp (gD G) (gC G) (gB G) h H → va_S (fun q => gB G ≤ q) s.heap H locs → lv_has ls 7 [(0, va_rf (some a0)), (5, .int v5), (6, .int v6)] → mX16_differing_l114 n h a0 v5 v6 = some res → W p l e ({ frames := 4, cells := 0, slots := 0, locals := 100 }) s m args below meth c H locs 0 0 Q (F0 m 114 ls []) := by
    intro n
    induction n with
    | zero => intro h H locs ls a0 v5 v6 hm hs hl hh; cases hh
    | succ n ih =>
      intro h H locs ls a0 v5 v6 hm hs hl hh
      unfold mX16_differing_l114 at hh
      refine lv_iload C.1 C.2.1 dX16_differing_114 (lv_at hl 2 rfl) ?_
      refine r_aload_n C.1 C.2.1 dX16_differing_116 rfl (lv_at hl 0 rfl) ?_
      refine r_getI C hm flX16_427 dX16_differing_117 hh (fun x5 _ hh => ?_)
      refine r_aload_n C.1 C.2.1 dX16_differing_120 rfl (lv_at hl 0 rfl) ?_
      refine r_getI C hm flX16_430 dX16_differing_121 hh (fun x6 _ hh => ?_)
      refine lv_imul C.1 C.2.1 dX16_differing_124 ?_
      refine lv_icmp_ge (tgt := 175) C.1 C.2.1 dX16_differing_125 (by decide) (fun c17 => ?_) (fun c17 => ?_)
      · rw [if_pos c17] at hh
        refine r_aload_n C.1 C.2.1 dX16_differing_175 rfl (lv_at hl 0 rfl) ?_
        refine lv_iload C.1 C.2.1 dX16_differing_176 (lv_at hl 1 rfl) ?_
        refine r_cV C X hm hs mlX16_323 mvX16_323 hh (vv := fun r => some (.int r.1)) (hp := fun r => r.2) (fun b r hg => c_X16_done l G h b _ r hg) rfl rfl (Nat.le_of_ble_eq_true rfl) (Nat.le_of_ble_eq_true rfl) (Nat.le_of_ble_eq_true rfl) hl.1 dX16_differing_178 (fun b8 r7 H locs hgr7 hh hm hs => ?_)
        refine W.eq (g2 := F0 m 181 ls [.int r7.1]) rfl ?_
        exact r_iretW hQ C hr hm hs hh dX16_differing_181
      · rw [if_neg c17] at hh
        refine lv_iload C.1 C.2.1 dX16_differing_128 (lv_at hl 1 rfl) ?_
        refine r_aload_n C.1 C.2.1 dX16_differing_130 rfl (lv_at hl 0 rfl) ?_
        refine r_getR C hm flX16_91 dX16_differing_131 hh (fun x9 _ hh => ?_)
        refine lv_iload C.1 C.2.1 dX16_differing_134 (lv_at hl 2 rfl) ?_
        refine r_ald C hm dX16_differing_136 hh (fun x10 _ hh => ?_)
        refine r_aload_n C.1 C.2.1 dX16_differing_137 rfl (lv_at hl 0 rfl) ?_
        refine r_getR C hm flX16_94 dX16_differing_138 hh (fun x11 _ hh => ?_)
        refine lv_iload C.1 C.2.1 dX16_differing_141 (lv_at hl 2 rfl) ?_
        refine r_ald C hm dX16_differing_143 hh (fun x12 _ hh => ?_)
        refine lv_isub C.1 C.2.1 dX16_differing_144 ?_
        refine r_cS C X hm hs mlX16_473 msX16_473 hh (vv := fun r => some (.int r)) (hp := fun r => h) (fun r hg => c_J9_abs_0f7a4 l G h _ r hg) rfl rfl (Nat.le_of_ble_eq_true rfl) (Nat.le_of_ble_eq_true rfl) (Nat.le_of_ble_eq_true rfl) hl.1 dX16_differing_145 (fun r13 H locs hgr13 hh hm hs => ?_)
        refine W.eq (g2 := F0 m 148 ls [.int r13, .int v5]) rfl ?_
        refine lv_iconst (v := 1) C.1 C.2.1 dX16_differing_148 (by decide) ?_
        refine r_aload_n C.1 C.2.1 dX16_differing_149 rfl (lv_at hl 0 rfl) ?_
        refine r_getI C hm flX16_82 dX16_differing_150 hh (fun x14 _ hh => ?_)
        refine lv_iconst (v := 1) C.1 C.2.1 dX16_differing_153 (by decide) ?_
        refine lv_isub C.1 C.2.1 dX16_differing_154 ?_
        refine r_cS C X hm hs mlX16_231 msX16_231 hh (vv := fun r => some (.int r)) (hp := fun r => h) (fun r hg => c_X16_in l G h _ _ _ r hg) rfl rfl (Nat.le_of_ble_eq_true rfl) (Nat.le_of_ble_eq_true rfl) (Nat.le_of_ble_eq_true rfl) hl.1 dX16_differing_155 (fun r15 H locs hgr15 hh hm hs => ?_)
        refine W.eq (g2 := F0 m 158 ls [.int r15, .int v5]) rfl ?_
        refine lv_if_eq (tgt := 165) C.1 C.2.1 dX16_differing_158 (by decide) (fun c16 => ?_) (fun c16 => ?_)
        · rw [if_pos c16] at hh
          refine lv_iconst (v := 0) C.1 C.2.1 dX16_differing_165 (by decide) ?_
          exact B166 _ ih _ _ _ _ _ _ _ _  hm hs (lv_sub hl [0, 2] rfl) hh
        · rw [if_neg c16] at hh
          refine lv_iconst (v := 1) C.1 C.2.1 dX16_differing_161 (by decide) ?_
          refine lv_goto (tgt := 166) C.1 C.2.1 dX16_differing_162 (by decide) ?_
          exact B166 _ ih _ _ _ _ _ _ _ _  hm hs (lv_sub hl [0, 2] rfl) hh
  unfold mX16_differing at hh
  refine r_aload_n C.1 C.2.1 dX16_differing_0 rfl (lv_at hl 0 rfl) ?_
  refine lv_iconst (v := 0) C.1 C.2.1 dX16_differing_1 (by decide) ?_
  refine r_putI C hm hs flX16_109 (Or.inl fm_17_0) dX16_differing_2 hh (fun h18 H locs _ hh hm hs => ?_)
  refine r_aload_n C.1 C.2.1 dX16_differing_5 rfl (lv_at hl 0 rfl) ?_
  refine lv_iload_n C.1 C.2.1 dX16_differing_6 rfl (lv_at hl 1 rfl) ?_
  refine r_cV C X hm hs mlX16_379 mvX16_379 hh (vv := fun r => some (.int r)) (hp := fun r => h18) (fun b r hg => c_X16_isTable l G h18 b _ r hg) rfl rfl (Nat.le_of_ble_eq_true rfl) (Nat.le_of_ble_eq_true rfl) (Nat.le_of_ble_eq_true rfl) hl.1 dX16_differing_7 (fun b20 r19 H locs hgr19 hh hm hs => ?_)
  refine W.eq (g2 := F0 m 10 ls [.int r19]) rfl ?_
  refine lv_if_eq (tgt := 21) C.1 C.2.1 dX16_differing_10 (by decide) (fun c44 => ?_) (fun c44 => ?_)
  · rw [if_pos c44] at hh
    exact B21 _ _ _ _ _  hm hs (lv_sub hl [0] rfl) hh
  · rw [if_neg c44] at hh
    refine r_aload_n C.1 C.2.1 dX16_differing_13 rfl (lv_at hl 0 rfl) ?_
    refine lv_iload_n C.1 C.2.1 dX16_differing_14 rfl (lv_at hl 2 rfl) ?_
    refine r_cV C X hm hs mlX16_379 mvX16_379 hh (vv := fun r => some (.int r)) (hp := fun r => h18) (fun b r hg => c_X16_isTable l G h18 b _ r hg) rfl rfl (Nat.le_of_ble_eq_true rfl) (Nat.le_of_ble_eq_true rfl) (Nat.le_of_ble_eq_true rfl) hl.1 dX16_differing_15 (fun b22 r21 H locs hgr21 hh hm hs => ?_)
    refine W.eq (g2 := F0 m 18 ls [.int r21]) rfl ?_
    refine lv_if_ne (tgt := 27) C.1 C.2.1 dX16_differing_18 (by decide) (fun c43 => ?_) (fun c43 => ?_)
    · rw [if_neg c43] at hh
      refine r_aload_n C.1 C.2.1 dX16_differing_27 rfl (lv_at hl 0 rfl) ?_
      refine r_getR C hm flX16_15 dX16_differing_28 hh (fun x23 _ hh => ?_)
      refine lv_iload_n C.1 C.2.1 dX16_differing_31 rfl (lv_at hl 1 rfl) ?_
      refine r_ald_q C hm dX16_differing_32 (kd := 26) (by decide) (t0 := 6) rfl hh (fun x24 _ hh => ?_)
      refine r_astore_n (i := 3) (lv' := [(3, va_rf x24), (0, va_rf (some a0)), (1, .int a1), (2, .int a2)]) C.1 C.2.1 dX16_differing_33 rfl hl (by decide) rfl (fun ls hl => ?_)
      refine r_aload_n C.1 C.2.1 dX16_differing_34 rfl (lv_at hl 1 rfl) ?_
      refine r_getR C hm flX16_15 dX16_differing_35 hh (fun x25 _ hh => ?_)
      refine lv_iload_n C.1 C.2.1 dX16_differing_38 rfl (lv_at hl 3 rfl) ?_
      refine r_ald_q C hm dX16_differing_39 (kd := 26) (by decide) (t0 := 6) rfl hh (fun x26 _ hh => ?_)
      refine r_astore (i := 4) (lv' := [(4, va_rf x26), (3, va_rf x24), (0, va_rf (some a0)), (1, .int a1), (2, .int a2)]) C.1 C.2.1 dX16_differing_40 hl (by decide) (by simp [va_cat, vc_i, vc_l, vc_r]) (fun ls hl => ?_)
      refine r_aload_n C.1 C.2.1 dX16_differing_42 rfl (lv_at hl 1 rfl) ?_
      refine r_getI C hm flX16_277 dX16_differing_43 hh (fun x27 _ hh => ?_)
      refine lv_iconst (v := (-1)) C.1 C.2.1 dX16_differing_46 (by decide) ?_
      refine lv_icmp_ne (tgt := 83) C.1 C.2.1 dX16_differing_47 (by decide) (fun c42 => ?_) (fun c42 => ?_)
      · rw [if_neg c42] at hh
        exact B83 _ _ _ _ _  hm hs (lv_sub hl [2] rfl) hh
      · rw [if_pos c42] at hh
        refine r_aload C.1 C.2.1 dX16_differing_50 (lv_at hl 0 rfl) ?_
        refine r_getI C hm flX16_277 dX16_differing_52 hh (fun x28 _ hh => ?_)
        refine lv_iconst (v := (-1)) C.1 C.2.1 dX16_differing_55 (by decide) ?_
        refine lv_icmp_ne (tgt := 83) C.1 C.2.1 dX16_differing_56 (by decide) (fun c41 => ?_) (fun c41 => ?_)
        · rw [if_neg c41] at hh
          exact B83 _ _ _ _ _  hm hs (lv_sub hl [2] rfl) hh
        · rw [if_pos c41] at hh
          refine r_aload_n C.1 C.2.1 dX16_differing_59 rfl (lv_at hl 1 rfl) ?_
          refine r_getI C hm flX16_279 dX16_differing_60 hh (fun x29 _ hh => ?_)
          refine r_aload C.1 C.2.1 dX16_differing_63 (lv_at hl 0 rfl) ?_
          refine r_getI C hm flX16_279 dX16_differing_65 hh (fun x30 _ hh => ?_)
          refine lv_icmp_ne (tgt := 83) C.1 C.2.1 dX16_differing_68 (by decide) (fun c40 => ?_) (fun c40 => ?_)
          · rw [if_neg c40] at hh
            exact B83 _ _ _ _ _  hm hs (lv_sub hl [2] rfl) hh
          · rw [if_pos c40] at hh
            refine r_aload_n C.1 C.2.1 dX16_differing_71 rfl (lv_at hl 1 rfl) ?_
            refine r_getI C hm flX16_281 dX16_differing_72 hh (fun x31 _ hh => ?_)
            refine r_aload C.1 C.2.1 dX16_differing_75 (lv_at hl 0 rfl) ?_
            refine r_getI C hm flX16_281 dX16_differing_77 hh (fun x32 _ hh => ?_)
            refine lv_icmp_eq (tgt := 89) C.1 C.2.1 dX16_differing_80 (by decide) (fun c39 => ?_) (fun c39 => ?_)
            · rw [if_pos c39] at hh
              refine r_aload_n C.1 C.2.1 dX16_differing_89 rfl (lv_at hl 2 rfl) ?_
              refine r_aload_n C.1 C.2.1 dX16_differing_90 rfl (lv_at hl 1 rfl) ?_
              refine r_aload_n C.1 C.2.1 dX16_differing_91 rfl (lv_at hl 2 rfl) ?_
              refine r_getR C hm flX16_91 dX16_differing_92 hh (fun x33 _ hh => ?_)
              refine r_cV C X hm hs mlX16_437 mvX16_437 hh (vv := fun r => none) (hp := fun r => r) (fun b r hg => c_X16_counts l G h18 b _ _ r hg) rfl rfl (Nat.le_of_ble_eq_true rfl) (Nat.le_of_ble_eq_true rfl) (Nat.le_of_ble_eq_true rfl) hl.1 dX16_differing_95 (fun b35 r34 H locs hgr34 hh hm hs => ?_)
              refine W.eq (g2 := F0 m 98 ls []) rfl ?_
              refine r_aload_n C.1 C.2.1 dX16_differing_98 rfl (lv_at hl 2 rfl) ?_
              refine r_aload C.1 C.2.1 dX16_differing_99 (lv_at hl 0 rfl) ?_
              refine r_aload_n C.1 C.2.1 dX16_differing_101 rfl (lv_at hl 2 rfl) ?_
              refine r_getR C hm flX16_94 dX16_differing_102 hh (fun x36 _ hh => ?_)
              refine r_cV C X hm hs mlX16_437 mvX16_437 hh (vv := fun r => none) (hp := fun r => r) (fun b r hg => c_X16_counts l G r34 b _ _ r hg) rfl rfl (Nat.le_of_ble_eq_true rfl) (Nat.le_of_ble_eq_true rfl) (Nat.le_of_ble_eq_true rfl) hl.1 dX16_differing_105 (fun b38 r37 H locs hgr37 hh hm hs => ?_)
              refine W.eq (g2 := F0 m 108 ls []) rfl ?_
              refine lv_iconst (v := 0) C.1 C.2.1 dX16_differing_108 (by decide) ?_
              refine lv_istore (i := 5) (lv' := [(5, .int 0), (4, va_rf x26), (3, va_rf x24), (0, va_rf (some a0)), (1, .int a1), (2, .int a2)]) C.1 C.2.1 dX16_differing_109 hl (by decide) (by simp [va_cat, vc_i, vc_l, vc_r]) (fun ls hl => ?_)
              refine lv_iconst (v := 0) C.1 C.2.1 dX16_differing_111 (by decide) ?_
              refine lv_istore (i := 6) (lv' := [(6, .int 0), (5, .int 0), (4, va_rf x26), (3, va_rf x24), (0, va_rf (some a0)), (1, .int a1), (2, .int a2)]) C.1 C.2.1 dX16_differing_112 hl (by decide) rfl (fun ls hl => ?_)
              exact B114 FUEL _ _ _ _ _ _ _  hm hs (lv_sub hl [4, 1, 0] rfl) hh
            · rw [if_neg c39] at hh
              exact B83 _ _ _ _ _  hm hs (lv_sub hl [2] rfl) hh
    · rw [if_pos c43] at hh
      exact B21 _ _ _ _ _  hm hs (lv_sub hl [0] rfl) hh
def mX16_lot (h : MHp) (a0 : Nat) (a1 : Int32) : Option (Int32 × MHp) := (pI 17 0 h (some a0) 0).bind fun h1 => (gR 17 4 h1 (some a0)).bind fun x2 => (if x2 = none then (rcv 17 h1 (some a0)).bind fun b20 => (mX16_refused h1 b20 1).bind fun r19 => some (r19.1, r19.2) else (mX16_in h1 a1 (-9) 9).bind fun r3 => (if r3 = 0 then (rcv 17 h1 (some a0)).bind fun b17 => (mX16_refused h1 b17 2).bind fun r16 => some (r16.1, r16.2) else (gI 17 49 h1 (some a0)).bind fun x4 => (if x4 = 100 then (rcv 17 h1 (some a0)).bind fun b14 => (mX16_refused h1 b14 3).bind fun r13 => some (r13.1, r13.2) else (gR 17 50 h1 (some a0)).bind fun x5 => (gI 17 49 h1 (some a0)).bind fun x6 => (pAI 20 h1 x5 x6 a1).bind fun h7 => (gI 17 49 h7 (some a0)).bind fun x8 => (pI 17 49 h7 (some a0) (x8 + 1)).bind fun h9 => (gI 17 49 h9 (some a0)).bind fun x10 => (rcv 17 h9 (some a0)).bind fun b12 => (mX16_done h9 b12 x10).bind fun r11 => some (r11.1, r11.2))))
set_option maxRecDepth 100000 in
set_option maxHeartbeats 4000000 in
theorem c_X16_lot (l : Launch) (G : Env0) (h : MHp) (a0 : Nat) (a1 : Int32) (res : Int32 × MHp) (hh : mX16_lot h a0 a1 = some res) : MG l yX16_lot cX16_lot 2 (some .int) 1 22 0 0 G h [.ref a0, .int a1] (some (.int res.1)) (res.2) := by
  refine MG_of (own := RX16) (plainFor_of_name (by decide)) rfl (Nat.le_of_ble_eq_true rfl) ?_
  intro p e s m args below meth c Q ls hQ C X hin hm hs hl hr
  have hl : lv_has ls 2 [(0, va_rf (some a0)), (1, .int a1)] := hl
  unfold mX16_lot at hh
  refine r_aload_n C.1 C.2.1 dX16_lot_0 rfl (lv_at hl 0 rfl) ?_
  refine lv_iconst (v := 0) C.1 C.2.1 dX16_lot_1 (by decide) ?_
  refine r_putI C hm hs flX16_109 (Or.inl fm_17_0) dX16_lot_2 hh (fun h1 H locs _ hh hm hs => ?_)
  refine r_aload_n C.1 C.2.1 dX16_lot_5 rfl (lv_at hl 0 rfl) ?_
  refine r_getR C hm flX16_274 dX16_lot_6 hh (fun x2 _ hh => ?_)
  refine r_ifnonnull (tgt := 18) C.1 C.2.1 dX16_lot_9 (by decide) (fun c21 => ?_) (fun c21 => ?_)
  · rw [if_neg c21] at hh
    refine lv_iload_n C.1 C.2.1 dX16_lot_18 rfl (lv_at hl 1 rfl) ?_
    refine lv_bipush (v := (-9)) C.1 C.2.1 dX16_lot_19 (by decide) ?_
    refine lv_bipush (v := 9) C.1 C.2.1 dX16_lot_21 (by decide) ?_
    refine r_cS C X hm hs mlX16_231 msX16_231 hh (vv := fun r => some (.int r)) (hp := fun r => h1) (fun r hg => c_X16_in l G h1 _ _ _ r hg) rfl rfl (Nat.le_of_ble_eq_true rfl) (Nat.le_of_ble_eq_true rfl) (Nat.le_of_ble_eq_true rfl) hl.1 dX16_lot_23 (fun r3 H locs hgr3 hh hm hs => ?_)
    refine W.eq (g2 := F0 m 26 ls [.int r3]) rfl ?_
    refine lv_if_ne (tgt := 35) C.1 C.2.1 dX16_lot_26 (by decide) (fun c18 => ?_) (fun c18 => ?_)
    · rw [if_neg c18] at hh
      refine r_aload_n C.1 C.2.1 dX16_lot_35 rfl (lv_at hl 0 rfl) ?_
      refine r_getI C hm flX16_317 dX16_lot_36 hh (fun x4 _ hh => ?_)
      refine lv_bipush (v := 100) C.1 C.2.1 dX16_lot_39 (by decide) ?_
      refine lv_icmp_ne (tgt := 50) C.1 C.2.1 dX16_lot_41 (by decide) (fun c15 => ?_) (fun c15 => ?_)
      · rw [if_neg c15] at hh
        refine r_aload_n C.1 C.2.1 dX16_lot_50 rfl (lv_at hl 0 rfl) ?_
        refine r_getR C hm flX16_106 dX16_lot_51 hh (fun x5 _ hh => ?_)
        refine r_aload_n C.1 C.2.1 dX16_lot_54 rfl (lv_at hl 0 rfl) ?_
        refine r_getI C hm flX16_317 dX16_lot_55 hh (fun x6 _ hh => ?_)
        refine lv_iload_n C.1 C.2.1 dX16_lot_58 rfl (lv_at hl 1 rfl) ?_
        refine r_ast C hm hs dX16_lot_59 hh (fun h7 H locs _ hh hm hs => ?_)
        refine r_aload_n C.1 C.2.1 dX16_lot_60 rfl (lv_at hl 0 rfl) ?_
        refine lv_dup C.1 C.2.1 dX16_lot_61 (va_cat _) ?_
        refine r_getI C hm flX16_317 dX16_lot_62 hh (fun x8 _ hh => ?_)
        refine lv_iconst (v := 1) C.1 C.2.1 dX16_lot_65 (by decide) ?_
        refine lv_iadd C.1 C.2.1 dX16_lot_66 ?_
        refine r_putI C hm hs flX16_317 (Or.inl fm_17_49) dX16_lot_67 hh (fun h9 H locs _ hh hm hs => ?_)
        refine r_aload_n C.1 C.2.1 dX16_lot_70 rfl (lv_at hl 0 rfl) ?_
        refine r_aload_n C.1 C.2.1 dX16_lot_71 rfl (lv_at hl 0 rfl) ?_
        refine r_getI C hm flX16_317 dX16_lot_72 hh (fun x10 _ hh => ?_)
        refine r_cV C X hm hs mlX16_323 mvX16_323 hh (vv := fun r => some (.int r.1)) (hp := fun r => r.2) (fun b r hg => c_X16_done l G h9 b _ r hg) rfl rfl (Nat.le_of_ble_eq_true rfl) (Nat.le_of_ble_eq_true rfl) (Nat.le_of_ble_eq_true rfl) hl.1 dX16_lot_75 (fun b12 r11 H locs hgr11 hh hm hs => ?_)
        refine W.eq (g2 := F0 m 78 ls [.int r11.1]) rfl ?_
        exact r_iretW hQ C hr hm hs hh dX16_lot_78
      · rw [if_pos c15] at hh
        refine r_aload_n C.1 C.2.1 dX16_lot_44 rfl (lv_at hl 0 rfl) ?_
        refine lv_iconst (v := 3) C.1 C.2.1 dX16_lot_45 (by decide) ?_
        refine r_cV C X hm hs mlX16_293 mvX16_293 hh (vv := fun r => some (.int r.1)) (hp := fun r => r.2) (fun b r hg => c_X16_refused l G h1 b _ r hg) rfl rfl (Nat.le_of_ble_eq_true rfl) (Nat.le_of_ble_eq_true rfl) (Nat.le_of_ble_eq_true rfl) hl.1 dX16_lot_46 (fun b14 r13 H locs hgr13 hh hm hs => ?_)
        refine W.eq (g2 := F0 m 49 ls [.int r13.1]) rfl ?_
        exact r_iretW hQ C hr hm hs hh dX16_lot_49
    · rw [if_pos c18] at hh
      refine r_aload_n C.1 C.2.1 dX16_lot_29 rfl (lv_at hl 0 rfl) ?_
      refine lv_iconst (v := 2) C.1 C.2.1 dX16_lot_30 (by decide) ?_
      refine r_cV C X hm hs mlX16_293 mvX16_293 hh (vv := fun r => some (.int r.1)) (hp := fun r => r.2) (fun b r hg => c_X16_refused l G h1 b _ r hg) rfl rfl (Nat.le_of_ble_eq_true rfl) (Nat.le_of_ble_eq_true rfl) (Nat.le_of_ble_eq_true rfl) hl.1 dX16_lot_31 (fun b17 r16 H locs hgr16 hh hm hs => ?_)
      refine W.eq (g2 := F0 m 34 ls [.int r16.1]) rfl ?_
      exact r_iretW hQ C hr hm hs hh dX16_lot_34
  · rw [if_pos c21] at hh
    refine r_aload_n C.1 C.2.1 dX16_lot_12 rfl (lv_at hl 0 rfl) ?_
    refine lv_iconst (v := 1) C.1 C.2.1 dX16_lot_13 (by decide) ?_
    refine r_cV C X hm hs mlX16_293 mvX16_293 hh (vv := fun r => some (.int r.1)) (hp := fun r => r.2) (fun b r hg => c_X16_refused l G h1 b _ r hg) rfl rfl (Nat.le_of_ble_eq_true rfl) (Nat.le_of_ble_eq_true rfl) (Nat.le_of_ble_eq_true rfl) hl.1 dX16_lot_14 (fun b20 r19 H locs hgr19 hh hm hs => ?_)
    refine W.eq (g2 := F0 m 17 ls [.int r19.1]) rfl ?_
    exact r_iretW hQ C hr hm hs hh dX16_lot_17
def mX16_noise_b111 (h : MHp) (a0 : Nat) : Option (Int64 × MHp) := (rcv 17 h (some a0)).bind fun b2 => (mX16_lost h b2 5).bind fun r1 => some (r1.1, r1.2)
def mX16_noise_l181 : Nat → MHp → Nat → Option Nat → Int32 → Int32 → Option (Int64 × MHp)
  | 0, _, _, _, _, _ => none
  | n + 1, h, a0, v4, v5, v8 => (gI 17 49 h (some a0)).bind fun x3 => (if x3 ≤ v8 then (gR 15 6 h v4).bind fun x4 => (gAL 21 h x4 v5).bind fun x5 => (rcv 17 h (some a0)).bind fun b7 => (mX16_told h b7 x5).bind fun r6 => some (r6.1, r6.2) else (gR 17 50 h (some a0)).bind fun x8 => (gR 17 50 h (some a0)).bind fun x9 => (gAI 20 h x9 (v8 + 1)).bind fun x10 => (pAI 20 h x8 v8 x10).bind fun h11 => mX16_noise_l181 n h11 a0 v4 v5 (v8 + 1))
def mX16_noise_b97 (h : MHp) (a0 : Nat) (v4 : Option Nat) (v5 : Int32) (v6 : Int64) : Option (Int64 × MHp) := (gI 17 49 h (some a0)).bind fun x13 => (if x13 = 0 then mX16_noise_b111 h a0 else (gI 17 40 h (some a0)).bind fun x14 => (if x14 = 0 then mX16_noise_b111 h a0 else (gR 15 4 h v4).bind fun x15 => (pAI 23 h x15 v5 1).bind fun h16 => (gR 15 5 h16 v4).bind fun x17 => (pAL 21 h16 x17 v5 v6).bind fun h18 => (gR 15 6 h18 v4).bind fun x19 => (gR 17 50 h18 (some a0)).bind fun x20 => (gAI 20 h18 x20 0).bind fun x21 => (mJ9_max_f86c9 h18 0 (v6 + x21.toInt64)).bind fun r22 => (pAL 21 h18 x19 v5 r22).bind fun h23 => (gI 17 49 h23 (some a0)).bind fun x24 => (pI 17 49 h23 (some a0) (x24 - 1)).bind fun h25 => (gI 17 40 h25 (some a0)).bind fun x26 => (pI 17 40 h25 (some a0) (x26 - 1)).bind fun h27 => mX16_noise_l181 FUEL h27 a0 v4 v5 0))
def mX16_noise (h : MHp) (a0 : Nat) (a1 : Int32) (a2 : Int32) (a3 : Int32) : Option (Int64 × MHp) := (pI 17 0 h (some a0) 0).bind fun h30 => (rcv 17 h30 (some a0)).bind fun b32 => (mX16_isCell h30 b32 a1 a2 a3).bind fun r31 => (if r31 = 0 then (rcv 17 h30 (some a0)).bind fun b52 => (mX16_lost h30 b52 1).bind fun r51 => some (r51.1, r51.2) else (gR 17 6 h30 (some a0)).bind fun x33 => (gAR 26 h30 x33 a1).bind fun x34 => (gI 15 2 h30 x34).bind fun x35 => (rcv 17 h30 (some a0)).bind fun b37 => (mX16_valuesOf h30 b37 x35).bind fun r36 => (gI 17 19 h30 (some a0)).bind fun x38 => (rcv 17 h30 (some a0)).bind fun b40 => (mX16_figureOf h30 b40 x34 a2 a3 x38 0).bind fun r39 => (gR 15 4 r39.2 x34).bind fun x41 => (gAI 23 r39.2 x41 ((r36 * a2) + a3)).bind fun x42 => (if x42 = 0 then mX16_noise_b97 r39.2 a0 x34 ((r36 * a2) + a3) r39.1 else (gR 15 5 r39.2 x34).bind fun x43 => (gAL 21 r39.2 x43 ((r36 * a2) + a3)).bind fun x44 => (if (lg_cmp x44 r39.1) = 0 then (gR 15 6 r39.2 x34).bind fun x45 => (gAL 21 r39.2 x45 ((r36 * a2) + a3)).bind fun x46 => (rcv 17 r39.2 (some a0)).bind fun b48 => (mX16_told r39.2 b48 x46).bind fun r47 => some (r47.1, r47.2) else mX16_noise_b97 r39.2 a0 x34 ((r36 * a2) + a3) r39.1)))
set_option maxRecDepth 100000 in
set_option maxHeartbeats 4000000 in
theorem c_X16_noise (l : Launch) (G : Env0) (h : MHp) (a0 : Nat) (a1 : Int32) (a2 : Int32) (a3 : Int32) (res : Int64 × MHp) (hh : mX16_noise h a0 a1 a2 a3 = some res) : MG l yX16_noise cX16_noise 9 (some .long) 4 104 0 0 G h [.ref a0, .int a1, .int a2, .int a3] (some (.long res.1)) (res.2) := by
  refine MG_of (own := RX16) (plainFor_of_name (by decide)) rfl (Nat.le_of_ble_eq_true rfl) ?_
  intro p e s m args below meth c Q ls hQ C X hin hm hs hl hr
  have hl : lv_has ls 9 [(0, va_rf (some a0)), (1, .int a1), (2, .int a2), (3, .int a3)] := hl
  have B111 : ∀ (h : MHp) (H : Heap) (locs : List Loc) (ls : Array Slot) (a0 : Nat) , mHp (gD G) (gC G) (gB G) h H → va_S (fun q => gB G ≤ q) s.heap H locs → lv_has ls 9 [(0, va_rf (some a0))] → mX16_noise_b111 h a0 = some res → W p l e ({ frames := 4, cells := 0, slots := 0, locals := 104 }) s m args below meth c H locs 0 0 Q (F0 m 111 ls []) := by
    intro h H locs ls a0 hm hs hl hh
    unfold mX16_noise_b111 at hh
    refine r_aload_n C.1 C.2.1 dX16_noise_111 rfl (lv_at hl 0 rfl) ?_
    refine lv_iconst (v := 5) C.1 C.2.1 dX16_noise_112 (by decide) ?_
    refine r_cV C X hm hs mlX16_396 mvX16_396 hh (vv := fun r => some (.long r.1)) (hp := fun r => r.2) (fun b r hg => c_X16_lost l G h b _ r hg) rfl rfl (Nat.le_of_ble_eq_true rfl) (Nat.le_of_ble_eq_true rfl) (Nat.le_of_ble_eq_true rfl) hl.1 dX16_noise_113 (fun b2 r1 H locs hgr1 hh hm hs => ?_)
    refine W.eq (g2 := F0 m 116 ls [.long r1.1]) rfl ?_
    exact r_lretW hQ C hr hm hs hh dX16_noise_116
  have B181 : ∀ n : Nat, ∀ (h : MHp) (H : Heap) (locs : List Loc) (ls : Array Slot) (a0 : Nat) (v4 : Option Nat) (v5 : Int32) (v8 : Int32) , mHp (gD G) (gC G) (gB G) h H → va_S (fun q => gB G ≤ q) s.heap H locs → lv_has ls 9 [(0, va_rf (some a0)), (4, va_rf v4), (5, .int v5), (8, .int v8)] → mX16_noise_l181 n h a0 v4 v5 v8 = some res → W p l e ({ frames := 4, cells := 0, slots := 0, locals := 104 }) s m args below meth c H locs 0 0 Q (F0 m 181 ls []) := by
    intro n
    induction n with
    | zero => intro h H locs ls a0 v4 v5 v8 hm hs hl hh; cases hh
    | succ n ih =>
      intro h H locs ls a0 v4 v5 v8 hm hs hl hh
      unfold mX16_noise_l181 at hh
      refine lv_iload C.1 C.2.1 dX16_noise_181 (lv_at hl 3 rfl) ?_
      refine r_aload_n C.1 C.2.1 dX16_noise_183 rfl (lv_at hl 0 rfl) ?_
      refine r_getI C hm flX16_317 dX16_noise_184 hh (fun x3 _ hh => ?_)
      refine lv_icmp_ge (tgt := 212) C.1 C.2.1 dX16_noise_187 (by decide) (fun c12 => ?_) (fun c12 => ?_)
      · rw [if_pos c12] at hh
        refine r_aload_n C.1 C.2.1 dX16_noise_212 rfl (lv_at hl 0 rfl) ?_
        refine r_aload C.1 C.2.1 dX16_noise_213 (lv_at hl 1 rfl) ?_
        refine r_getR C hm flX16_482 dX16_noise_215 hh (fun x4 _ hh => ?_)
        refine lv_iload C.1 C.2.1 dX16_noise_218 (lv_at hl 2 rfl) ?_
        refine r_lald C hm dX16_noise_220 hh (fun x5 _ hh => ?_)
        refine r_cV C X hm hs mlX16_404 mvX16_404 hh (vv := fun r => some (.long r.1)) (hp := fun r => r.2) (fun b r hg => c_X16_told l G h b _ r hg) rfl rfl (Nat.le_of_ble_eq_true rfl) (Nat.le_of_ble_eq_true rfl) (Nat.le_of_ble_eq_true rfl) hl.1 dX16_noise_221 (fun b7 r6 H locs hgr6 hh hm hs => ?_)
        refine W.eq (g2 := F0 m 224 ls [.long r6.1]) rfl ?_
        exact r_lretW hQ C hr hm hs hh dX16_noise_224
      · rw [if_neg c12] at hh
        refine r_aload_n C.1 C.2.1 dX16_noise_190 rfl (lv_at hl 0 rfl) ?_
        refine r_getR C hm flX16_106 dX16_noise_191 hh (fun x8 _ hh => ?_)
        refine lv_iload C.1 C.2.1 dX16_noise_194 (lv_at hl 3 rfl) ?_
        refine r_aload_n C.1 C.2.1 dX16_noise_196 rfl (lv_at hl 0 rfl) ?_
        refine r_getR C hm flX16_106 dX16_noise_197 hh (fun x9 _ hh => ?_)
        refine lv_iload C.1 C.2.1 dX16_noise_200 (lv_at hl 3 rfl) ?_
        refine lv_iconst (v := 1) C.1 C.2.1 dX16_noise_202 (by decide) ?_
        refine lv_iadd C.1 C.2.1 dX16_noise_203 ?_
        refine r_ald C hm dX16_noise_204 hh (fun x10 _ hh => ?_)
        refine r_ast C hm hs dX16_noise_205 hh (fun h11 H locs _ hh hm hs => ?_)
        refine lv_iinc (v := (v8 + 1)) (lv' := [(8, .int (v8 + 1)), (0, va_rf (some a0)), (4, va_rf v4), (5, .int v5)]) C.1 C.2.1 dX16_noise_206 hl (k := 3) rfl rfl (by decide) rfl (fun ls hl => ?_)
        refine lv_goto (tgt := 181) C.1 C.2.1 dX16_noise_209 (by decide) ?_
        exact ih _ _ _ _ _ _ _ _  hm hs (lv_sub hl [1, 2, 3, 0] rfl) hh
  have B97 : ∀ (h : MHp) (H : Heap) (locs : List Loc) (ls : Array Slot) (a0 : Nat) (v4 : Option Nat) (v5 : Int32) (v6 : Int64) , mHp (gD G) (gC G) (gB G) h H → va_S (fun q => gB G ≤ q) s.heap H locs → lv_has ls 9 [(0, va_rf (some a0)), (4, va_rf v4), (5, .int v5), (6, .long v6)] → mX16_noise_b97 h a0 v4 v5 v6 = some res → W p l e ({ frames := 4, cells := 0, slots := 0, locals := 104 }) s m args below meth c H locs 0 0 Q (F0 m 97 ls []) := by
    intro h H locs ls a0 v4 v5 v6 hm hs hl hh
    unfold mX16_noise_b97 at hh
    refine r_aload_n C.1 C.2.1 dX16_noise_97 rfl (lv_at hl 0 rfl) ?_
    refine r_getI C hm flX16_317 dX16_noise_98 hh (fun x13 _ hh => ?_)
    refine lv_if_eq (tgt := 111) C.1 C.2.1 dX16_noise_101 (by decide) (fun c29 => ?_) (fun c29 => ?_)
    · rw [if_pos c29] at hh
      exact B111 _ _ _ _ _  hm hs (lv_sub hl [0] rfl) hh
    · rw [if_neg c29] at hh
      refine r_aload_n C.1 C.2.1 dX16_noise_104 rfl (lv_at hl 0 rfl) ?_
      refine r_getI C hm flX16_320 dX16_noise_105 hh (fun x14 _ hh => ?_)
      refine lv_if_ne (tgt := 117) C.1 C.2.1 dX16_noise_108 (by decide) (fun c28 => ?_) (fun c28 => ?_)
      · rw [if_neg c28] at hh
        refine r_aload C.1 C.2.1 dX16_noise_117 (lv_at hl 1 rfl) ?_
        refine r_getR C hm flX16_476 dX16_noise_119 hh (fun x15 _ hh => ?_)
        refine lv_iload C.1 C.2.1 dX16_noise_122 (lv_at hl 2 rfl) ?_
        refine lv_iconst (v := 1) C.1 C.2.1 dX16_noise_124 (by decide) ?_
        refine r_zast1 C hm hs dX16_noise_125 hh (fun h16 H locs _ hh hm hs => ?_)
        refine r_aload C.1 C.2.1 dX16_noise_126 (lv_at hl 1 rfl) ?_
        refine r_getR C hm flX16_479 dX16_noise_128 hh (fun x17 _ hh => ?_)
        refine lv_iload C.1 C.2.1 dX16_noise_131 (lv_at hl 2 rfl) ?_
        refine lv_lload C.1 C.2.1 dX16_noise_133 (lv_at hl 3 rfl) ?_
        refine r_last C hm hs dX16_noise_135 hh (fun h18 H locs _ hh hm hs => ?_)
        refine r_aload C.1 C.2.1 dX16_noise_136 (lv_at hl 1 rfl) ?_
        refine r_getR C hm flX16_482 dX16_noise_138 hh (fun x19 _ hh => ?_)
        refine lv_iload C.1 C.2.1 dX16_noise_141 (lv_at hl 2 rfl) ?_
        refine lv_lconst (v := 0) C.1 C.2.1 dX16_noise_143 (by decide) ?_
        refine lv_lload C.1 C.2.1 dX16_noise_144 (lv_at hl 3 rfl) ?_
        refine r_aload_n C.1 C.2.1 dX16_noise_146 rfl (lv_at hl 0 rfl) ?_
        refine r_getR C hm flX16_106 dX16_noise_147 hh (fun x20 _ hh => ?_)
        refine lv_iconst (v := 0) C.1 C.2.1 dX16_noise_150 (by decide) ?_
        refine r_ald C hm dX16_noise_151 hh (fun x21 _ hh => ?_)
        refine lv_i2l (v := x21.toInt64) C.1 C.2.1 dX16_noise_152 rfl ?_
        refine lv_ladd C.1 C.2.1 dX16_noise_153 ?_
        refine r_cS C X hm hs mlX16_408 msX16_408 hh (vv := fun r => some (.long r)) (hp := fun r => h18) (fun r hg => c_J9_max_f86c9 l G h18 _ _ r hg) rfl rfl (by simp [va_cat, vc_i, vc_l, vc_r]) (Nat.le_of_ble_eq_true rfl) (Nat.le_of_ble_eq_true rfl) hl.1 dX16_noise_154 (fun r22 H locs hgr22 hh hm hs => ?_)
        refine W.eq (g2 := F0 m 157 ls [.long r22, .int v5, va_rf x19]) rfl ?_
        refine r_last C hm hs dX16_noise_157 hh (fun h23 H locs _ hh hm hs => ?_)
        refine r_aload_n C.1 C.2.1 dX16_noise_158 rfl (lv_at hl 0 rfl) ?_
        refine lv_dup C.1 C.2.1 dX16_noise_159 (va_cat _) ?_
        refine r_getI C hm flX16_317 dX16_noise_160 hh (fun x24 _ hh => ?_)
        refine lv_iconst (v := 1) C.1 C.2.1 dX16_noise_163 (by decide) ?_
        refine lv_isub C.1 C.2.1 dX16_noise_164 ?_
        refine r_putI C hm hs flX16_317 (Or.inl fm_17_49) dX16_noise_165 hh (fun h25 H locs _ hh hm hs => ?_)
        refine r_aload_n C.1 C.2.1 dX16_noise_168 rfl (lv_at hl 0 rfl) ?_
        refine lv_dup C.1 C.2.1 dX16_noise_169 (va_cat _) ?_
        refine r_getI C hm flX16_320 dX16_noise_170 hh (fun x26 _ hh => ?_)
        refine lv_iconst (v := 1) C.1 C.2.1 dX16_noise_173 (by decide) ?_
        refine lv_isub C.1 C.2.1 dX16_noise_174 ?_
        refine r_putI C hm hs flX16_320 (Or.inl fm_17_40) dX16_noise_175 hh (fun h27 H locs _ hh hm hs => ?_)
        refine lv_iconst (v := 0) C.1 C.2.1 dX16_noise_178 (by decide) ?_
        refine lv_istore (i := 8) (lv' := [(8, .int 0), (0, va_rf (some a0)), (4, va_rf v4), (5, .int v5), (6, .long v6)]) C.1 C.2.1 dX16_noise_179 hl (by decide) rfl (fun ls hl => ?_)
        exact B181 FUEL _ _ _ _ _ _ _ _  hm hs (lv_sub hl [1, 2, 3, 0] rfl) hh
      · rw [if_pos c28] at hh
        exact B111 _ _ _ _ _  hm hs (lv_sub hl [0] rfl) hh
  unfold mX16_noise at hh
  refine r_aload_n C.1 C.2.1 dX16_noise_0 rfl (lv_at hl 0 rfl) ?_
  refine lv_iconst (v := 0) C.1 C.2.1 dX16_noise_1 (by decide) ?_
  refine r_putI C hm hs flX16_109 (Or.inl fm_17_0) dX16_noise_2 hh (fun h30 H locs _ hh hm hs => ?_)
  refine r_aload_n C.1 C.2.1 dX16_noise_5 rfl (lv_at hl 0 rfl) ?_
  refine lv_iload_n C.1 C.2.1 dX16_noise_6 rfl (lv_at hl 1 rfl) ?_
  refine lv_iload_n C.1 C.2.1 dX16_noise_7 rfl (lv_at hl 2 rfl) ?_
  refine lv_iload_n C.1 C.2.1 dX16_noise_8 rfl (lv_at hl 3 rfl) ?_
  refine r_cV C X hm hs mlX16_393 mvX16_393 hh (vv := fun r => some (.int r)) (hp := fun r => h30) (fun b r hg => c_X16_isCell l G h30 b _ _ _ r hg) rfl rfl (Nat.le_of_ble_eq_true rfl) (Nat.le_of_ble_eq_true rfl) (Nat.le_of_ble_eq_true rfl) hl.1 dX16_noise_9 (fun b32 r31 H locs hgr31 hh hm hs => ?_)
  refine W.eq (g2 := F0 m 12 ls [.int r31]) rfl ?_
  refine lv_if_ne (tgt := 21) C.1 C.2.1 dX16_noise_12 (by decide) (fun c53 => ?_) (fun c53 => ?_)
  · rw [if_neg c53] at hh
    refine r_aload_n C.1 C.2.1 dX16_noise_21 rfl (lv_at hl 0 rfl) ?_
    refine r_getR C hm flX16_15 dX16_noise_22 hh (fun x33 _ hh => ?_)
    refine lv_iload_n C.1 C.2.1 dX16_noise_25 rfl (lv_at hl 1 rfl) ?_
    refine r_ald_q C hm dX16_noise_26 (kd := 26) (by decide) (t0 := 6) rfl hh (fun x34 _ hh => ?_)
    refine r_astore (i := 4) (lv' := [(4, va_rf x34), (0, va_rf (some a0)), (1, .int a1), (2, .int a2), (3, .int a3)]) C.1 C.2.1 dX16_noise_27 hl (by decide) rfl (fun ls hl => ?_)
    refine r_aload_n C.1 C.2.1 dX16_noise_29 rfl (lv_at hl 1 rfl) ?_
    refine r_aload C.1 C.2.1 dX16_noise_30 (lv_at hl 0 rfl) ?_
    refine r_getI C hm flX16_281 dX16_noise_32 hh (fun x35 _ hh => ?_)
    refine r_cV C X hm hs mlX16_382 mvX16_382 hh (vv := fun r => some (.int r)) (hp := fun r => h30) (fun b r hg => c_X16_valuesOf l G h30 b _ r hg) rfl rfl (Nat.le_of_ble_eq_true rfl) (Nat.le_of_ble_eq_true rfl) (Nat.le_of_ble_eq_true rfl) hl.1 dX16_noise_35 (fun b37 r36 H locs hgr36 hh hm hs => ?_)
    refine W.eq (g2 := F0 m 38 ls [.int r36]) rfl ?_
    refine lv_iload_n C.1 C.2.1 dX16_noise_38 rfl (lv_at hl 3 rfl) ?_
    refine lv_imul C.1 C.2.1 dX16_noise_39 ?_
    refine lv_iload_n C.1 C.2.1 dX16_noise_40 rfl (lv_at hl 4 rfl) ?_
    refine lv_iadd C.1 C.2.1 dX16_noise_41 ?_
    refine lv_istore (i := 5) (lv' := [(5, .int ((r36 * a2) + a3)), (4, va_rf x34), (0, va_rf (some a0)), (1, .int a1), (2, .int a2), (3, .int a3)]) C.1 C.2.1 dX16_noise_42 hl (by decide) (by simp [va_cat, vc_i, vc_l, vc_r]) (fun ls hl => ?_)
    refine r_aload_n C.1 C.2.1 dX16_noise_44 rfl (lv_at hl 2 rfl) ?_
    refine r_aload C.1 C.2.1 dX16_noise_45 (lv_at hl 1 rfl) ?_
    refine lv_iload_n C.1 C.2.1 dX16_noise_47 rfl (lv_at hl 4 rfl) ?_
    refine lv_iload_n C.1 C.2.1 dX16_noise_48 rfl (lv_at hl 5 rfl) ?_
    refine r_aload_n C.1 C.2.1 dX16_noise_49 rfl (lv_at hl 2 rfl) ?_
    refine r_getI C hm flX16_314 dX16_noise_50 hh (fun x38 _ hh => ?_)
    refine lv_iconst (v := 0) C.1 C.2.1 dX16_noise_53 (by decide) ?_
    refine r_cV C X hm hs mlX16_400 mvX16_400 hh (vv := fun r => some (.long r.1)) (hp := fun r => r.2) (fun b r hg => c_X16_figureOf l G h30 b _ _ _ _ _ r hg) rfl rfl (Nat.le_of_ble_eq_true rfl) (Nat.le_of_ble_eq_true rfl) (Nat.le_of_ble_eq_true rfl) hl.1 dX16_noise_54 (fun b40 r39 H locs hgr39 hh hm hs => ?_)
    refine W.eq (g2 := F0 m 57 ls [.long r39.1]) rfl ?_
    refine lv_lstore (i := 6) (lv' := [(6, .long r39.1), (5, .int ((r36 * a2) + a3)), (4, va_rf x34), (0, va_rf (some a0)), (1, .int a1), (2, .int a2), (3, .int a3)]) C.1 C.2.1 dX16_noise_57 hl (by decide) rfl (fun ls hl => ?_)
    refine r_aload C.1 C.2.1 dX16_noise_59 (lv_at hl 2 rfl) ?_
    refine r_getR C hm flX16_476 dX16_noise_61 hh (fun x41 _ hh => ?_)
    refine lv_iload C.1 C.2.1 dX16_noise_64 (lv_at hl 1 rfl) ?_
    refine r_zald C hm dX16_noise_66 hh (fun x42 _ hh => ?_)
    refine lv_if_eq (tgt := 97) C.1 C.2.1 dX16_noise_67 (by decide) (fun c50 => ?_) (fun c50 => ?_)
    · rw [if_pos c50] at hh
      exact B97 _ _ _ _ _ _ _ _  hm hs (lv_sub hl [3, 2, 1, 0] rfl) hh
    · rw [if_neg c50] at hh
      refine r_aload C.1 C.2.1 dX16_noise_70 (lv_at hl 2 rfl) ?_
      refine r_getR C hm flX16_479 dX16_noise_72 hh (fun x43 _ hh => ?_)
      refine lv_iload C.1 C.2.1 dX16_noise_75 (lv_at hl 1 rfl) ?_
      refine r_lald C hm dX16_noise_77 hh (fun x44 _ hh => ?_)
      refine lv_lload C.1 C.2.1 dX16_noise_78 (lv_at hl 0 rfl) ?_
      refine W.lcmp C.1 C.2.1 dX16_noise_80 ?_
      refine lv_if_ne (tgt := 97) C.1 C.2.1 dX16_noise_81 (by decide) (fun c49 => ?_) (fun c49 => ?_)
      · rw [if_neg c49] at hh
        exact B97 _ _ _ _ _ _ _ _  hm hs (lv_sub hl [3, 2, 1, 0] rfl) hh
      · rw [if_pos c49] at hh
        refine r_aload_n C.1 C.2.1 dX16_noise_84 rfl (lv_at hl 3 rfl) ?_
        refine r_aload C.1 C.2.1 dX16_noise_85 (lv_at hl 2 rfl) ?_
        refine r_getR C hm flX16_482 dX16_noise_87 hh (fun x45 _ hh => ?_)
        refine lv_iload C.1 C.2.1 dX16_noise_90 (lv_at hl 1 rfl) ?_
        refine r_lald C hm dX16_noise_92 hh (fun x46 _ hh => ?_)
        refine r_cV C X hm hs mlX16_404 mvX16_404 hh (vv := fun r => some (.long r.1)) (hp := fun r => r.2) (fun b r hg => c_X16_told l G r39.2 b _ r hg) rfl rfl (Nat.le_of_ble_eq_true rfl) (Nat.le_of_ble_eq_true rfl) (Nat.le_of_ble_eq_true rfl) hl.1 dX16_noise_93 (fun b48 r47 H locs hgr47 hh hm hs => ?_)
        refine W.eq (g2 := F0 m 96 ls [.long r47.1]) rfl ?_
        exact r_lretW hQ C hr hm hs hh dX16_noise_96
  · rw [if_pos c53] at hh
    refine r_aload_n C.1 C.2.1 dX16_noise_15 rfl (lv_at hl 0 rfl) ?_
    refine lv_iconst (v := 1) C.1 C.2.1 dX16_noise_16 (by decide) ?_
    refine r_cV C X hm hs mlX16_396 mvX16_396 hh (vv := fun r => some (.long r.1)) (hp := fun r => r.2) (fun b r hg => c_X16_lost l G h30 b _ r hg) rfl rfl (Nat.le_of_ble_eq_true rfl) (Nat.le_of_ble_eq_true rfl) (Nat.le_of_ble_eq_true rfl) hl.1 dX16_noise_17 (fun b52 r51 H locs hgr51 hh hm hs => ?_)
    refine W.eq (g2 := F0 m 20 ls [.long r51.1]) rfl ?_
    exact r_lretW hQ C hr hm hs hh dX16_noise_20
def mX16_led_b79 (k29 : MHp → Nat → Int32 → Int32 → Int32 → Int32 → Int32 → Option (Int32 × MHp)) (h : MHp) (a0 : Nat) (v1 : Int32) (v2 : Int32) (v3 : Int32) (v5 : Int32) (v6 : Int32) : Option (Int32 × MHp) := k29 h a0 v1 v2 v3 v5 (v6 + 1)
def mX16_led_l29 : Nat → MHp → Nat → Int32 → Int32 → Int32 → Int32 → Int32 → Option (Int32 × MHp)
  | 0, _, _, _, _, _, _, _ => none
  | n + 1, h, a0, v1, v2, v3, v5, v6 => (gI 17 18 h (some a0)).bind fun x1 => (if x1 ≤ v6 then some (0, h) else (gR 17 6 h (some a0)).bind fun x2 => (gAR 26 h x2 v1).bind fun x3 => (gI 17 19 h (some a0)).bind fun x4 => (rcv 17 h (some a0)).bind fun b6 => (mX16_isIn h b6 x3 v6 v2 v3 x4 0).bind fun r5 => (if r5.1 = 0 then mX16_led_b79 (mX16_led_l29 n) r5.2 a0 v1 v2 v3 v5 v6 else (if v5 = 0 then (pI 17 0 r5.2 (some a0) 0).bind fun h7 => some (v6, h7) else mX16_led_b79 (mX16_led_l29 n) r5.2 a0 v1 v2 v3 (v5 + (-1)) v6)))
def mX16_led (h : MHp) (a0 : Nat) (a1 : Int32) (a2 : Int32) (a3 : Int32) (a4 : Int32) : Option (Int32 × MHp) := (pI 17 0 h (some a0) 1).bind fun h11 => (rcv 17 h11 (some a0)).bind fun b13 => (mX16_isCell h11 b13 a1 a2 a3).bind fun r12 => (if r12 = 0 then some (0, h11) else (if 0 ≤ a4 then mX16_led_l29 FUEL h11 a0 a1 a2 a3 a4 0 else some (0, h11)))
set_option maxRecDepth 100000 in
set_option maxHeartbeats 4000000 in
theorem c_X16_led (l : Launch) (G : Env0) (h : MHp) (a0 : Nat) (a1 : Int32) (a2 : Int32) (a3 : Int32) (a4 : Int32) (res : Int32 × MHp) (hh : mX16_led h a0 a1 a2 a3 a4 = some res) : MG l yX16_led cX16_led 7 (some .int) 3 76 0 0 G h [.ref a0, .int a1, .int a2, .int a3, .int a4] (some (.int res.1)) (res.2) := by
  refine MG_of (own := RX16) (plainFor_of_name (by decide)) rfl (Nat.le_of_ble_eq_true rfl) ?_
  intro p e s m args below meth c Q ls hQ C X hin hm hs hl hr
  have hl : lv_has ls 7 [(0, va_rf (some a0)), (1, .int a1), (2, .int a2), (3, .int a3), (4, .int a4)] := hl
  have B79 : ∀ (k29 : MHp → Nat → Int32 → Int32 → Int32 → Int32 → Int32 → Option (Int32 × MHp)), (∀ (h : MHp) (H : Heap) (locs : List Loc) (ls : Array Slot) (a0 : Nat) (v1 : Int32) (v2 : Int32) (v3 : Int32) (v5 : Int32) (v6 : Int32) , mHp (gD G) (gC G) (gB G) h H → va_S (fun q => gB G ≤ q) s.heap H locs → lv_has ls 7 [(0, va_rf (some a0)), (1, .int v1), (2, .int v2), (3, .int v3), (5, .int v5), (6, .int v6)] → k29 h a0 v1 v2 v3 v5 v6 = some res → W p l e ({ frames := 3, cells := 0, slots := 0, locals := 76 }) s m args below meth c H locs 0 0 Q (F0 m 29 ls [])) → ∀ (h : MHp) (H : Heap) (locs : List Loc) (ls : Array Slot) (a0 : Nat) (v1 : Int32) (v2 : Int32) (v3 : Int32) (v5 : Int32) (v6 : Int32) , mHp (gD G) (gC G) (gB G) h H → va_S (fun q => gB G ≤ q) s.heap H locs → lv_has ls 7 [(0, va_rf (some a0)), (1, .int v1), (2, .int v2), (3, .int v3), (5, .int v5), (6, .int v6)] → mX16_led_b79 k29 h a0 v1 v2 v3 v5 v6 = some res → W p l e ({ frames := 3, cells := 0, slots := 0, locals := 76 }) s m args below meth c H locs 0 0 Q (F0 m 79 ls []) := by
    intro k29 hk29 h H locs ls a0 v1 v2 v3 v5 v6 hm hs hl hh
    unfold mX16_led_b79 at hh
    refine lv_iinc (v := (v6 + 1)) (lv' := [(6, .int (v6 + 1)), (0, va_rf (some a0)), (1, .int v1), (2, .int v2), (3, .int v3), (5, .int v5)]) C.1 C.2.1 dX16_led_79 hl (k := 5) rfl rfl (by decide) rfl (fun ls hl => ?_)
    refine lv_goto (tgt := 29) C.1 C.2.1 dX16_led_82 (by decide) ?_
    exact hk29 _ _ _ _ _ _ _ _ _ _  hm hs (lv_sub hl [1, 2, 3, 4, 5, 0] rfl) hh
  have B29 : ∀ n : Nat, ∀ (h : MHp) (H : Heap) (locs : List Loc) (ls : Array Slot) (a0 : Nat) (v1 : Int32) (v2 : Int32) (v3 : Int32) (v5 : Int32) (v6 : Int32) , mHp (gD G) (gC G) (gB G) h H → va_S (fun q => gB G ≤ q) s.heap H locs → lv_has ls 7 [(0, va_rf (some a0)), (1, .int v1), (2, .int v2), (3, .int v3), (5, .int v5), (6, .int v6)] → mX16_led_l29 n h a0 v1 v2 v3 v5 v6 = some res → W p l e ({ frames := 3, cells := 0, slots := 0, locals := 76 }) s m args below meth c H locs 0 0 Q (F0 m 29 ls []) := by
    intro n
    induction n with
    | zero => intro h H locs ls a0 v1 v2 v3 v5 v6 hm hs hl hh; cases hh
    | succ n ih =>
      intro h H locs ls a0 v1 v2 v3 v5 v6 hm hs hl hh
      unfold mX16_led_l29 at hh
      refine lv_iload C.1 C.2.1 dX16_led_29 (lv_at hl 5 rfl) ?_
      refine r_aload_n C.1 C.2.1 dX16_led_31 rfl (lv_at hl 0 rfl) ?_
      refine r_getI C hm flX16_308 dX16_led_32 hh (fun x1 _ hh => ?_)
      refine lv_icmp_ge (tgt := 85) C.1 C.2.1 dX16_led_35 (by decide) (fun c10 => ?_) (fun c10 => ?_)
      · rw [if_pos c10] at hh
        refine lv_iconst (v := 0) C.1 C.2.1 dX16_led_85 (by decide) ?_
        exact r_iretW hQ C hr hm hs hh dX16_led_86
      · rw [if_neg c10] at hh
        refine r_aload_n C.1 C.2.1 dX16_led_38 rfl (lv_at hl 0 rfl) ?_
        refine r_aload_n C.1 C.2.1 dX16_led_39 rfl (lv_at hl 0 rfl) ?_
        refine r_getR C hm flX16_15 dX16_led_40 hh (fun x2 _ hh => ?_)
        refine lv_iload_n C.1 C.2.1 dX16_led_43 rfl (lv_at hl 1 rfl) ?_
        refine r_ald_q C hm dX16_led_44 (kd := 26) (by decide) (t0 := 6) rfl hh (fun x3 _ hh => ?_)
        refine lv_iload C.1 C.2.1 dX16_led_45 (lv_at hl 5 rfl) ?_
        refine lv_iload_n C.1 C.2.1 dX16_led_47 rfl (lv_at hl 2 rfl) ?_
        refine lv_iload_n C.1 C.2.1 dX16_led_48 rfl (lv_at hl 3 rfl) ?_
        refine r_aload_n C.1 C.2.1 dX16_led_49 rfl (lv_at hl 0 rfl) ?_
        refine r_getI C hm flX16_314 dX16_led_50 hh (fun x4 _ hh => ?_)
        refine lv_iconst (v := 0) C.1 C.2.1 dX16_led_53 (by decide) ?_
        refine r_cV C X hm hs mlX16_389 mvX16_389 hh (vv := fun r => some (.int r.1)) (hp := fun r => r.2) (fun b r hg => c_X16_isIn l G h b _ _ _ _ _ _ r hg) rfl rfl (Nat.le_of_ble_eq_true rfl) (Nat.le_of_ble_eq_true rfl) (Nat.le_of_ble_eq_true rfl) hl.1 dX16_led_54 (fun b6 r5 H locs hgr5 hh hm hs => ?_)
        refine W.eq (g2 := F0 m 57 ls [.int r5.1]) rfl ?_
        refine lv_if_ne (tgt := 63) C.1 C.2.1 dX16_led_57 (by decide) (fun c9 => ?_) (fun c9 => ?_)
        · rw [if_neg c9] at hh
          refine lv_iload C.1 C.2.1 dX16_led_63 (lv_at hl 4 rfl) ?_
          refine lv_if_ne (tgt := 76) C.1 C.2.1 dX16_led_65 (by decide) (fun c8 => ?_) (fun c8 => ?_)
          · rw [if_neg c8] at hh
            refine lv_iinc (v := (v5 + (-1))) (lv' := [(5, .int (v5 + (-1))), (0, va_rf (some a0)), (1, .int v1), (2, .int v2), (3, .int v3), (6, .int v6)]) C.1 C.2.1 dX16_led_76 hl (k := 4) rfl rfl (by decide) rfl (fun ls hl => ?_)
            exact B79 _ ih _ _ _ _ _ _ _ _ _ _  hm hs (lv_sub hl [1, 2, 3, 4, 0, 5] rfl) hh
          · rw [if_pos c8] at hh
            refine r_aload_n C.1 C.2.1 dX16_led_68 rfl (lv_at hl 0 rfl) ?_
            refine lv_iconst (v := 0) C.1 C.2.1 dX16_led_69 (by decide) ?_
            refine r_putI C hm hs flX16_109 (Or.inl fm_17_0) dX16_led_70 hh (fun h7 H locs _ hh hm hs => ?_)
            refine lv_iload C.1 C.2.1 dX16_led_73 (lv_at hl 5 rfl) ?_
            exact r_iretW hQ C hr hm hs hh dX16_led_75
        · rw [if_pos c9] at hh
          refine lv_goto (tgt := 79) C.1 C.2.1 dX16_led_60 (by decide) ?_
          exact B79 _ ih _ _ _ _ _ _ _ _ _ _  hm hs (lv_sub hl [0, 1, 2, 3, 4, 5] rfl) hh
  unfold mX16_led at hh
  refine r_aload_n C.1 C.2.1 dX16_led_0 rfl (lv_at hl 0 rfl) ?_
  refine lv_iconst (v := 1) C.1 C.2.1 dX16_led_1 (by decide) ?_
  refine r_putI C hm hs flX16_109 (Or.inl fm_17_0) dX16_led_2 hh (fun h11 H locs _ hh hm hs => ?_)
  refine r_aload_n C.1 C.2.1 dX16_led_5 rfl (lv_at hl 0 rfl) ?_
  refine lv_iload_n C.1 C.2.1 dX16_led_6 rfl (lv_at hl 1 rfl) ?_
  refine lv_iload_n C.1 C.2.1 dX16_led_7 rfl (lv_at hl 2 rfl) ?_
  refine lv_iload_n C.1 C.2.1 dX16_led_8 rfl (lv_at hl 3 rfl) ?_
  refine r_cV C X hm hs mlX16_393 mvX16_393 hh (vv := fun r => some (.int r)) (hp := fun r => h11) (fun b r hg => c_X16_isCell l G h11 b _ _ _ r hg) rfl rfl (Nat.le_of_ble_eq_true rfl) (Nat.le_of_ble_eq_true rfl) (Nat.le_of_ble_eq_true rfl) hl.1 dX16_led_9 (fun b13 r12 H locs hgr12 hh hm hs => ?_)
  refine W.eq (g2 := F0 m 12 ls [.int r12]) rfl ?_
  refine lv_if_eq (tgt := 20) C.1 C.2.1 dX16_led_12 (by decide) (fun c15 => ?_) (fun c15 => ?_)
  · rw [if_pos c15] at hh
    refine lv_iconst (v := 0) C.1 C.2.1 dX16_led_20 (by decide) ?_
    exact r_iretW hQ C hr hm hs hh dX16_led_21
  · rw [if_neg c15] at hh
    refine lv_iload C.1 C.2.1 dX16_led_15 (lv_at hl 4 rfl) ?_
    refine lv_if_ge (tgt := 22) C.1 C.2.1 dX16_led_17 (by decide) (fun c14 => ?_) (fun c14 => ?_)
    · rw [if_pos c14] at hh
      refine lv_iload C.1 C.2.1 dX16_led_22 (lv_at hl 4 rfl) ?_
      refine lv_istore (i := 5) (lv' := [(5, .int a4), (0, va_rf (some a0)), (1, .int a1), (2, .int a2), (3, .int a3), (4, .int a4)]) C.1 C.2.1 dX16_led_24 hl (by decide) rfl (fun ls hl => ?_)
      refine lv_iconst (v := 0) C.1 C.2.1 dX16_led_26 (by decide) ?_
      refine lv_istore (i := 6) (lv' := [(6, .int 0), (5, .int a4), (0, va_rf (some a0)), (1, .int a1), (2, .int a2), (3, .int a3), (4, .int a4)]) C.1 C.2.1 dX16_led_27 hl (by decide) rfl (fun ls hl => ?_)
      exact B29 FUEL _ _ _ _ _ _ _ _ _ _  hm hs (lv_sub hl [2, 3, 4, 5, 1, 0] rfl) hh
    · rw [if_neg c14] at hh
      refine lv_iconst (v := 0) C.1 C.2.1 dX16_led_20 (by decide) ?_
      exact r_iretW hQ C hr hm hs hh dX16_led_21
def mX16_count_b250 (k226 : MHp → Nat → Int32 → Int32 → Option (Int32 × MHp)) (h : MHp) (a0 : Nat) (v3 : Int32) (t0 : Int32) (t1 : Int32) : Option (Int32 × MHp) := k226 h a0 (t0 + t1) (v3 + 1)
def mX16_count_l226 : Nat → MHp → Nat → Int32 → Int32 → Option (Int32 × MHp)
  | 0, _, _, _, _ => none
  | n + 1, h, a0, v2, v3 => (gI 17 18 h (some a0)).bind fun x1 => (if x1 ≤ v3 then some (v2, h) else (gR 17 27 h (some a0)).bind fun x2 => (gAI 20 h x2 v3).bind fun x3 => (if x3 = (-1) then mX16_count_b250 (mX16_count_l226 n) h a0 v3 v2 0 else mX16_count_b250 (mX16_count_l226 n) h a0 v3 v2 1))
def mX16_count_b214 (k190 : MHp → Nat → Int32 → Int32 → Option (Int32 × MHp)) (h : MHp) (a0 : Nat) (v3 : Int32) (t0 : Int32) (t1 : Int32) : Option (Int32 × MHp) := k190 h a0 (t0 + t1) (v3 + 1)
def mX16_count_l190 : Nat → MHp → Nat → Int32 → Int32 → Option (Int32 × MHp)
  | 0, _, _, _, _ => none
  | n + 1, h, a0, v2, v3 => (gI 17 18 h (some a0)).bind fun x6 => (if x6 ≤ v3 then some (v2, h) else (gR 17 25 h (some a0)).bind fun x7 => (gAI 20 h x7 v3).bind fun x8 => (if x8 = (-1) then mX16_count_b214 (mX16_count_l190 n) h a0 v3 v2 0 else mX16_count_b214 (mX16_count_l190 n) h a0 v3 v2 1))
def mX16_count_b178 (k123 : MHp → Nat → Int32 → Int32 → Option (Int32 × MHp)) (h : MHp) (a0 : Nat) (v3 : Int32) (t0 : Int32) (t1 : Int32) : Option (Int32 × MHp) := k123 h a0 (t0 + t1) (v3 + 1)
def mX16_count_b177 (k123 : MHp → Nat → Int32 → Int32 → Option (Int32 × MHp)) (h : MHp) (a0 : Nat) (v3 : Int32) (t0 : Int32) : Option (Int32 × MHp) := mX16_count_b178 k123 h a0 v3 t0 0
def mX16_count_l123 : Nat → MHp → Nat → Int32 → Int32 → Option (Int32 × MHp)
  | 0, _, _, _, _ => none
  | n + 1, h, a0, v2, v3 => (gI 17 18 h (some a0)).bind fun x11 => (if x11 ≤ v3 then some (v2, h) else (gI 17 19 h (some a0)).bind fun x12 => (gR 17 29 h (some a0)).bind fun x13 => (rcv 17 h (some a0)).bind fun b15 => (mX16_loads h b15 v3 x12 0 x13).bind fun r14 => (gI 17 19 r14 (some a0)).bind fun x16 => (rcv 17 r14 (some a0)).bind fun b18 => (mX16_isThere r14 b18 v3 x16).bind fun r17 => (if r17 = 0 then mX16_count_b177 (mX16_count_l123 n) r14 a0 v3 v2 else (gR 17 4 r14 (some a0)).bind fun x19 => (gR 17 29 r14 (some a0)).bind fun x20 => (rcv 13 r14 x19).bind fun b22 => (mX12_broken r14 b22 x20).bind fun r21 => (if r21 = (-1) then mX16_count_b177 (mX16_count_l123 n) r14 a0 v3 v2 else mX16_count_b178 (mX16_count_l123 n) r14 a0 v3 v2 1)))
def mX16_count (h : MHp) (a0 : Nat) (a1 : Int32) : Option (Int32 × MHp) := (pI 17 0 h (some a0) 0).bind fun h26 => (if a1 = 0 then (gR 17 4 h26 (some a0)).bind fun x28 => (if x28 = none then some (0, h26) else (gR 17 4 h26 (some a0)).bind fun x29 => (gI 13 0 h26 x29).bind fun x30 => some (x30, h26)) else (if a1 = 1 then (gR 17 4 h26 (some a0)).bind fun x32 => (if x32 = none then some (0, h26) else (gR 17 4 h26 (some a0)).bind fun x33 => (gI 13 1 h26 x33).bind fun x34 => some (x34, h26)) else (if a1 = 2 then (gI 17 18 h26 (some a0)).bind fun x36 => some (x36, h26) else (if a1 = 3 then (gI 17 7 h26 (some a0)).bind fun x37 => some (x37, h26) else (if a1 = 4 then (gI 17 19 h26 (some a0)).bind fun x38 => some (x38, h26) else (if a1 = 5 then mX16_count_l123 FUEL h26 a0 0 0 else (if a1 = 6 then mX16_count_l190 FUEL h26 a0 0 0 else (if a1 = 7 then mX16_count_l226 FUEL h26 a0 0 0 else (if a1 = 8 then (gI 17 49 h26 (some a0)).bind fun x39 => some (x39, h26) else (if a1 = 9 then (gI 17 40 h26 (some a0)).bind fun x40 => some (x40, h26) else (if a1 = 10 then (gI 17 10 h26 (some a0)).bind fun x41 => some (x41, h26) else some ((-1), h26))))))))))))
set_option maxRecDepth 100000 in
set_option maxHeartbeats 4000000 in
theorem c_X16_count (l : Launch) (G : Env0) (h : MHp) (a0 : Nat) (a1 : Int32) (res : Int32 × MHp) (hh : mX16_count h a0 a1 = some res) : MG l yX16_count cX16_count 4 (some .int) 2 50 0 0 G h [.ref a0, .int a1] (some (.int res.1)) (res.2) := by
  refine MG_of (own := RX16) (plainFor_of_name (by decide)) rfl (Nat.le_of_ble_eq_true rfl) ?_
  intro p e s m args below meth c Q ls hQ C X hin hm hs hl hr
  have hl : lv_has ls 4 [(0, va_rf (some a0)), (1, .int a1)] := hl
  have B250 : ∀ (k226 : MHp → Nat → Int32 → Int32 → Option (Int32 × MHp)), (∀ (h : MHp) (H : Heap) (locs : List Loc) (ls : Array Slot) (a0 : Nat) (v2 : Int32) (v3 : Int32) , mHp (gD G) (gC G) (gB G) h H → va_S (fun q => gB G ≤ q) s.heap H locs → lv_has ls 4 [(0, va_rf (some a0)), (2, .int v2), (3, .int v3)] → k226 h a0 v2 v3 = some res → W p l e ({ frames := 2, cells := 0, slots := 0, locals := 50 }) s m args below meth c H locs 0 0 Q (F0 m 226 ls [])) → ∀ (h : MHp) (H : Heap) (locs : List Loc) (ls : Array Slot) (a0 : Nat) (v3 : Int32) (t0 : Int32) (t1 : Int32) , mHp (gD G) (gC G) (gB G) h H → va_S (fun q => gB G ≤ q) s.heap H locs → lv_has ls 4 [(0, va_rf (some a0)), (3, .int v3)] → mX16_count_b250 k226 h a0 v3 t0 t1 = some res → W p l e ({ frames := 2, cells := 0, slots := 0, locals := 50 }) s m args below meth c H locs 0 0 Q (F0 m 250 ls [.int t1, .int t0]) := by
    intro k226 hk226 h H locs ls a0 v3 t0 t1 hm hs hl hh
    unfold mX16_count_b250 at hh
    refine lv_iadd C.1 C.2.1 dX16_count_250 ?_
    refine lv_istore_n (i := 2) (lv' := [(2, .int (t0 + t1)), (0, va_rf (some a0)), (3, .int v3)]) C.1 C.2.1 dX16_count_251 rfl hl (by decide) rfl (fun ls hl => ?_)
    refine lv_iinc (v := (v3 + 1)) (lv' := [(3, .int (v3 + 1)), (2, .int (t0 + t1)), (0, va_rf (some a0))]) C.1 C.2.1 dX16_count_252 hl (k := 2) rfl rfl (by decide) rfl (fun ls hl => ?_)
    refine lv_goto (tgt := 226) C.1 C.2.1 dX16_count_255 (by decide) ?_
    exact hk226 _ _ _ _ _ _ _  hm hs (lv_sub hl [2, 1, 0] rfl) hh
  have B226 : ∀ n : Nat, ∀ (h : MHp) (H : Heap) (locs : List Loc) (ls : Array Slot) (a0 : Nat) (v2 : Int32) (v3 : Int32) , mHp (gD G) (gC G) (gB G) h H → va_S (fun q => gB G ≤ q) s.heap H locs → lv_has ls 4 [(0, va_rf (some a0)), (2, .int v2), (3, .int v3)] → mX16_count_l226 n h a0 v2 v3 = some res → W p l e ({ frames := 2, cells := 0, slots := 0, locals := 50 }) s m args below meth c H locs 0 0 Q (F0 m 226 ls []) := by
    intro n
    induction n with
    | zero => intro h H locs ls a0 v2 v3 hm hs hl hh; cases hh
    | succ n ih =>
      intro h H locs ls a0 v2 v3 hm hs hl hh
      unfold mX16_count_l226 at hh
      refine lv_iload_n C.1 C.2.1 dX16_count_226 rfl (lv_at hl 2 rfl) ?_
      refine r_aload_n C.1 C.2.1 dX16_count_227 rfl (lv_at hl 0 rfl) ?_
      refine r_getI C hm flX16_308 dX16_count_228 hh (fun x1 _ hh => ?_)
      refine lv_icmp_ge (tgt := 258) C.1 C.2.1 dX16_count_231 (by decide) (fun c5 => ?_) (fun c5 => ?_)
      · rw [if_pos c5] at hh
        refine lv_iload_n C.1 C.2.1 dX16_count_258 rfl (lv_at hl 1 rfl) ?_
        exact r_iretW hQ C hr hm hs hh dX16_count_259
      · rw [if_neg c5] at hh
        refine lv_iload_n C.1 C.2.1 dX16_count_234 rfl (lv_at hl 1 rfl) ?_
        refine r_aload_n C.1 C.2.1 dX16_count_235 rfl (lv_at hl 0 rfl) ?_
        refine r_getR C hm flX16_52 dX16_count_236 hh (fun x2 _ hh => ?_)
        refine lv_iload_n C.1 C.2.1 dX16_count_239 rfl (lv_at hl 2 rfl) ?_
        refine r_ald C hm dX16_count_240 hh (fun x3 _ hh => ?_)
        refine lv_iconst (v := (-1)) C.1 C.2.1 dX16_count_241 (by decide) ?_
        refine lv_icmp_eq (tgt := 249) C.1 C.2.1 dX16_count_242 (by decide) (fun c4 => ?_) (fun c4 => ?_)
        · rw [if_pos c4] at hh
          refine lv_iconst (v := 0) C.1 C.2.1 dX16_count_249 (by decide) ?_
          exact B250 _ ih _ _ _ _ _ _ _ _  hm hs (lv_sub hl [0, 2] rfl) hh
        · rw [if_neg c4] at hh
          refine lv_iconst (v := 1) C.1 C.2.1 dX16_count_245 (by decide) ?_
          refine lv_goto (tgt := 250) C.1 C.2.1 dX16_count_246 (by decide) ?_
          exact B250 _ ih _ _ _ _ _ _ _ _  hm hs (lv_sub hl [0, 2] rfl) hh
  have B214 : ∀ (k190 : MHp → Nat → Int32 → Int32 → Option (Int32 × MHp)), (∀ (h : MHp) (H : Heap) (locs : List Loc) (ls : Array Slot) (a0 : Nat) (v2 : Int32) (v3 : Int32) , mHp (gD G) (gC G) (gB G) h H → va_S (fun q => gB G ≤ q) s.heap H locs → lv_has ls 4 [(0, va_rf (some a0)), (2, .int v2), (3, .int v3)] → k190 h a0 v2 v3 = some res → W p l e ({ frames := 2, cells := 0, slots := 0, locals := 50 }) s m args below meth c H locs 0 0 Q (F0 m 190 ls [])) → ∀ (h : MHp) (H : Heap) (locs : List Loc) (ls : Array Slot) (a0 : Nat) (v3 : Int32) (t0 : Int32) (t1 : Int32) , mHp (gD G) (gC G) (gB G) h H → va_S (fun q => gB G ≤ q) s.heap H locs → lv_has ls 4 [(0, va_rf (some a0)), (3, .int v3)] → mX16_count_b214 k190 h a0 v3 t0 t1 = some res → W p l e ({ frames := 2, cells := 0, slots := 0, locals := 50 }) s m args below meth c H locs 0 0 Q (F0 m 214 ls [.int t1, .int t0]) := by
    intro k190 hk190 h H locs ls a0 v3 t0 t1 hm hs hl hh
    unfold mX16_count_b214 at hh
    refine lv_iadd C.1 C.2.1 dX16_count_214 ?_
    refine lv_istore_n (i := 2) (lv' := [(2, .int (t0 + t1)), (0, va_rf (some a0)), (3, .int v3)]) C.1 C.2.1 dX16_count_215 rfl hl (by decide) rfl (fun ls hl => ?_)
    refine lv_iinc (v := (v3 + 1)) (lv' := [(3, .int (v3 + 1)), (2, .int (t0 + t1)), (0, va_rf (some a0))]) C.1 C.2.1 dX16_count_216 hl (k := 2) rfl rfl (by decide) rfl (fun ls hl => ?_)
    refine lv_goto (tgt := 190) C.1 C.2.1 dX16_count_219 (by decide) ?_
    exact hk190 _ _ _ _ _ _ _  hm hs (lv_sub hl [2, 1, 0] rfl) hh
  have B190 : ∀ n : Nat, ∀ (h : MHp) (H : Heap) (locs : List Loc) (ls : Array Slot) (a0 : Nat) (v2 : Int32) (v3 : Int32) , mHp (gD G) (gC G) (gB G) h H → va_S (fun q => gB G ≤ q) s.heap H locs → lv_has ls 4 [(0, va_rf (some a0)), (2, .int v2), (3, .int v3)] → mX16_count_l190 n h a0 v2 v3 = some res → W p l e ({ frames := 2, cells := 0, slots := 0, locals := 50 }) s m args below meth c H locs 0 0 Q (F0 m 190 ls []) := by
    intro n
    induction n with
    | zero => intro h H locs ls a0 v2 v3 hm hs hl hh; cases hh
    | succ n ih =>
      intro h H locs ls a0 v2 v3 hm hs hl hh
      unfold mX16_count_l190 at hh
      refine lv_iload_n C.1 C.2.1 dX16_count_190 rfl (lv_at hl 2 rfl) ?_
      refine r_aload_n C.1 C.2.1 dX16_count_191 rfl (lv_at hl 0 rfl) ?_
      refine r_getI C hm flX16_308 dX16_count_192 hh (fun x6 _ hh => ?_)
      refine lv_icmp_ge (tgt := 222) C.1 C.2.1 dX16_count_195 (by decide) (fun c10 => ?_) (fun c10 => ?_)
      · rw [if_pos c10] at hh
        refine lv_iload_n C.1 C.2.1 dX16_count_222 rfl (lv_at hl 1 rfl) ?_
        exact r_iretW hQ C hr hm hs hh dX16_count_223
      · rw [if_neg c10] at hh
        refine lv_iload_n C.1 C.2.1 dX16_count_198 rfl (lv_at hl 1 rfl) ?_
        refine r_aload_n C.1 C.2.1 dX16_count_199 rfl (lv_at hl 0 rfl) ?_
        refine r_getR C hm flX16_46 dX16_count_200 hh (fun x7 _ hh => ?_)
        refine lv_iload_n C.1 C.2.1 dX16_count_203 rfl (lv_at hl 2 rfl) ?_
        refine r_ald C hm dX16_count_204 hh (fun x8 _ hh => ?_)
        refine lv_iconst (v := (-1)) C.1 C.2.1 dX16_count_205 (by decide) ?_
        refine lv_icmp_eq (tgt := 213) C.1 C.2.1 dX16_count_206 (by decide) (fun c9 => ?_) (fun c9 => ?_)
        · rw [if_pos c9] at hh
          refine lv_iconst (v := 0) C.1 C.2.1 dX16_count_213 (by decide) ?_
          exact B214 _ ih _ _ _ _ _ _ _ _  hm hs (lv_sub hl [0, 2] rfl) hh
        · rw [if_neg c9] at hh
          refine lv_iconst (v := 1) C.1 C.2.1 dX16_count_209 (by decide) ?_
          refine lv_goto (tgt := 214) C.1 C.2.1 dX16_count_210 (by decide) ?_
          exact B214 _ ih _ _ _ _ _ _ _ _  hm hs (lv_sub hl [0, 2] rfl) hh
  have B178 : ∀ (k123 : MHp → Nat → Int32 → Int32 → Option (Int32 × MHp)), (∀ (h : MHp) (H : Heap) (locs : List Loc) (ls : Array Slot) (a0 : Nat) (v2 : Int32) (v3 : Int32) , mHp (gD G) (gC G) (gB G) h H → va_S (fun q => gB G ≤ q) s.heap H locs → lv_has ls 4 [(0, va_rf (some a0)), (2, .int v2), (3, .int v3)] → k123 h a0 v2 v3 = some res → W p l e ({ frames := 2, cells := 0, slots := 0, locals := 50 }) s m args below meth c H locs 0 0 Q (F0 m 123 ls [])) → ∀ (h : MHp) (H : Heap) (locs : List Loc) (ls : Array Slot) (a0 : Nat) (v3 : Int32) (t0 : Int32) (t1 : Int32) , mHp (gD G) (gC G) (gB G) h H → va_S (fun q => gB G ≤ q) s.heap H locs → lv_has ls 4 [(0, va_rf (some a0)), (3, .int v3)] → mX16_count_b178 k123 h a0 v3 t0 t1 = some res → W p l e ({ frames := 2, cells := 0, slots := 0, locals := 50 }) s m args below meth c H locs 0 0 Q (F0 m 178 ls [.int t1, .int t0]) := by
    intro k123 hk123 h H locs ls a0 v3 t0 t1 hm hs hl hh
    unfold mX16_count_b178 at hh
    refine lv_iadd C.1 C.2.1 dX16_count_178 ?_
    refine lv_istore_n (i := 2) (lv' := [(2, .int (t0 + t1)), (0, va_rf (some a0)), (3, .int v3)]) C.1 C.2.1 dX16_count_179 rfl hl (by decide) rfl (fun ls hl => ?_)
    refine lv_iinc (v := (v3 + 1)) (lv' := [(3, .int (v3 + 1)), (2, .int (t0 + t1)), (0, va_rf (some a0))]) C.1 C.2.1 dX16_count_180 hl (k := 2) rfl rfl (by decide) rfl (fun ls hl => ?_)
    refine lv_goto (tgt := 123) C.1 C.2.1 dX16_count_183 (by decide) ?_
    exact hk123 _ _ _ _ _ _ _  hm hs (lv_sub hl [2, 1, 0] rfl) hh
  have B177 : ∀ (k123 : MHp → Nat → Int32 → Int32 → Option (Int32 × MHp)), (∀ (h : MHp) (H : Heap) (locs : List Loc) (ls : Array Slot) (a0 : Nat) (v2 : Int32) (v3 : Int32) , mHp (gD G) (gC G) (gB G) h H → va_S (fun q => gB G ≤ q) s.heap H locs → lv_has ls 4 [(0, va_rf (some a0)), (2, .int v2), (3, .int v3)] → k123 h a0 v2 v3 = some res → W p l e ({ frames := 2, cells := 0, slots := 0, locals := 50 }) s m args below meth c H locs 0 0 Q (F0 m 123 ls [])) → ∀ (h : MHp) (H : Heap) (locs : List Loc) (ls : Array Slot) (a0 : Nat) (v3 : Int32) (t0 : Int32) , mHp (gD G) (gC G) (gB G) h H → va_S (fun q => gB G ≤ q) s.heap H locs → lv_has ls 4 [(0, va_rf (some a0)), (3, .int v3)] → mX16_count_b177 k123 h a0 v3 t0 = some res → W p l e ({ frames := 2, cells := 0, slots := 0, locals := 50 }) s m args below meth c H locs 0 0 Q (F0 m 177 ls [.int t0]) := by
    intro k123 hk123 h H locs ls a0 v3 t0 hm hs hl hh
    unfold mX16_count_b177 at hh
    refine lv_iconst (v := 0) C.1 C.2.1 dX16_count_177 (by decide) ?_
    exact B178 _ hk123 _ _ _ _ _ _ _ _  hm hs (lv_sub hl [0, 1] rfl) hh
  have B123 : ∀ n : Nat, ∀ (h : MHp) (H : Heap) (locs : List Loc) (ls : Array Slot) (a0 : Nat) (v2 : Int32) (v3 : Int32) , mHp (gD G) (gC G) (gB G) h H → va_S (fun q => gB G ≤ q) s.heap H locs → lv_has ls 4 [(0, va_rf (some a0)), (2, .int v2), (3, .int v3)] → mX16_count_l123 n h a0 v2 v3 = some res → W p l e ({ frames := 2, cells := 0, slots := 0, locals := 50 }) s m args below meth c H locs 0 0 Q (F0 m 123 ls []) := by
    intro n
    induction n with
    | zero => intro h H locs ls a0 v2 v3 hm hs hl hh; cases hh
    | succ n ih =>
      intro h H locs ls a0 v2 v3 hm hs hl hh
      unfold mX16_count_l123 at hh
      refine lv_iload_n C.1 C.2.1 dX16_count_123 rfl (lv_at hl 2 rfl) ?_
      refine r_aload_n C.1 C.2.1 dX16_count_124 rfl (lv_at hl 0 rfl) ?_
      refine r_getI C hm flX16_308 dX16_count_125 hh (fun x11 _ hh => ?_)
      refine lv_icmp_ge (tgt := 186) C.1 C.2.1 dX16_count_128 (by decide) (fun c25 => ?_) (fun c25 => ?_)
      · rw [if_pos c25] at hh
        refine lv_iload_n C.1 C.2.1 dX16_count_186 rfl (lv_at hl 1 rfl) ?_
        exact r_iretW hQ C hr hm hs hh dX16_count_187
      · rw [if_neg c25] at hh
        refine r_aload_n C.1 C.2.1 dX16_count_131 rfl (lv_at hl 0 rfl) ?_
        refine lv_iload_n C.1 C.2.1 dX16_count_132 rfl (lv_at hl 2 rfl) ?_
        refine r_aload_n C.1 C.2.1 dX16_count_133 rfl (lv_at hl 0 rfl) ?_
        refine r_getI C hm flX16_314 dX16_count_134 hh (fun x12 _ hh => ?_)
        refine lv_iconst (v := 0) C.1 C.2.1 dX16_count_137 (by decide) ?_
        refine r_aload_n C.1 C.2.1 dX16_count_138 rfl (lv_at hl 0 rfl) ?_
        refine r_getR C hm flX16_58 dX16_count_139 hh (fun x13 _ hh => ?_)
        refine r_cV C X hm hs mlX16_349 mvX16_349 hh (vv := fun r => none) (hp := fun r => r) (fun b r hg => c_X16_loads l G h b _ _ _ _ r hg) rfl rfl (Nat.le_of_ble_eq_true rfl) (Nat.le_of_ble_eq_true rfl) (Nat.le_of_ble_eq_true rfl) hl.1 dX16_count_142 (fun b15 r14 H locs hgr14 hh hm hs => ?_)
        refine W.eq (g2 := F0 m 145 ls []) rfl ?_
        refine lv_iload_n C.1 C.2.1 dX16_count_145 rfl (lv_at hl 1 rfl) ?_
        refine r_aload_n C.1 C.2.1 dX16_count_146 rfl (lv_at hl 0 rfl) ?_
        refine lv_iload_n C.1 C.2.1 dX16_count_147 rfl (lv_at hl 2 rfl) ?_
        refine r_aload_n C.1 C.2.1 dX16_count_148 rfl (lv_at hl 0 rfl) ?_
        refine r_getI C hm flX16_314 dX16_count_149 hh (fun x16 _ hh => ?_)
        refine r_cV C X hm hs mlX16_353 mvX16_353 hh (vv := fun r => some (.int r)) (hp := fun r => r14) (fun b r hg => c_X16_isThere l G r14 b _ _ r hg) rfl rfl (Nat.le_of_ble_eq_true rfl) (Nat.le_of_ble_eq_true rfl) (Nat.le_of_ble_eq_true rfl) hl.1 dX16_count_152 (fun b18 r17 H locs hgr17 hh hm hs => ?_)
        refine W.eq (g2 := F0 m 155 ls [.int r17, .int v2]) rfl ?_
        refine lv_if_eq (tgt := 177) C.1 C.2.1 dX16_count_155 (by decide) (fun c24 => ?_) (fun c24 => ?_)
        · rw [if_pos c24] at hh
          exact B177 _ ih _ _ _ _ _ _ _  hm hs (lv_sub hl [0, 2] rfl) hh
        · rw [if_neg c24] at hh
          refine r_aload_n C.1 C.2.1 dX16_count_158 rfl (lv_at hl 0 rfl) ?_
          refine r_getR C hm flX16_274 dX16_count_159 hh (fun x19 _ hh => ?_)
          refine r_aload_n C.1 C.2.1 dX16_count_162 rfl (lv_at hl 0 rfl) ?_
          refine r_getR C hm flX16_58 dX16_count_163 hh (fun x20 _ hh => ?_)
          refine r_cV C X hm hs mlX16_356 mvX16_356 hh (vv := fun r => some (.int r)) (hp := fun r => r14) (fun b r hg => c_X12_broken l G r14 b _ r hg) rfl rfl (Nat.le_of_ble_eq_true rfl) (Nat.le_of_ble_eq_true rfl) (Nat.le_of_ble_eq_true rfl) hl.1 dX16_count_166 (fun b22 r21 H locs hgr21 hh hm hs => ?_)
          refine W.eq (g2 := F0 m 169 ls [.int r21, .int v2]) rfl ?_
          refine lv_iconst (v := (-1)) C.1 C.2.1 dX16_count_169 (by decide) ?_
          refine lv_icmp_eq (tgt := 177) C.1 C.2.1 dX16_count_170 (by decide) (fun c23 => ?_) (fun c23 => ?_)
          · rw [if_pos c23] at hh
            exact B177 _ ih _ _ _ _ _ _ _  hm hs (lv_sub hl [0, 2] rfl) hh
          · rw [if_neg c23] at hh
            refine lv_iconst (v := 1) C.1 C.2.1 dX16_count_173 (by decide) ?_
            refine lv_goto (tgt := 178) C.1 C.2.1 dX16_count_174 (by decide) ?_
            exact B178 _ ih _ _ _ _ _ _ _ _  hm hs (lv_sub hl [0, 2] rfl) hh
  unfold mX16_count at hh
  refine r_aload_n C.1 C.2.1 dX16_count_0 rfl (lv_at hl 0 rfl) ?_
  refine lv_iconst (v := 0) C.1 C.2.1 dX16_count_1 (by decide) ?_
  refine r_putI C hm hs flX16_109 (Or.inl fm_17_0) dX16_count_2 hh (fun h26 H locs _ hh hm hs => ?_)
  refine lv_iconst (v := 0) C.1 C.2.1 dX16_count_5 (by decide) ?_
  refine lv_istore_n (i := 2) (lv' := [(2, .int 0), (0, va_rf (some a0)), (1, .int a1)]) C.1 C.2.1 dX16_count_6 rfl hl (by decide) rfl (fun ls hl => ?_)
  refine lv_iload_n C.1 C.2.1 dX16_count_7 rfl (lv_at hl 2 rfl) ?_
  by_cases c27_0 : a1 = 0
  · rw [if_pos c27_0] at hh
    refine r_tsw (tgt := 68) C dX16_count_8 c27_0 (by decide) (by decide) rfl (by decide) ?_
    refine r_aload_n C.1 C.2.1 dX16_count_68 rfl (lv_at hl 1 rfl) ?_
    refine r_getR C hm flX16_274 dX16_count_69 hh (fun x28 _ hh => ?_)
    refine r_ifnonnull (tgt := 79) C.1 C.2.1 dX16_count_72 (by decide) (fun c31 => ?_) (fun c31 => ?_)
    · rw [if_neg c31] at hh
      refine r_aload_n C.1 C.2.1 dX16_count_79 rfl (lv_at hl 1 rfl) ?_
      refine r_getR C hm flX16_274 dX16_count_80 hh (fun x29 _ hh => ?_)
      refine r_getI C hm flX16_218 dX16_count_83 hh (fun x30 _ hh => ?_)
      exact r_iretW hQ C hr hm hs hh dX16_count_86
    · rw [if_pos c31] at hh
      refine lv_iconst (v := 0) C.1 C.2.1 dX16_count_75 (by decide) ?_
      refine lv_goto (tgt := 86) C.1 C.2.1 dX16_count_76 (by decide) ?_
      exact r_iretW hQ C hr hm hs hh dX16_count_86
  · rw [if_neg c27_0] at hh
    by_cases c27_1 : a1 = 1
    · rw [if_pos c27_1] at hh
      refine r_tsw (tgt := 87) C dX16_count_8 c27_1 (by decide) (by decide) rfl (by decide) ?_
      refine r_aload_n C.1 C.2.1 dX16_count_87 rfl (lv_at hl 1 rfl) ?_
      refine r_getR C hm flX16_274 dX16_count_88 hh (fun x32 _ hh => ?_)
      refine r_ifnonnull (tgt := 98) C.1 C.2.1 dX16_count_91 (by decide) (fun c35 => ?_) (fun c35 => ?_)
      · rw [if_neg c35] at hh
        refine r_aload_n C.1 C.2.1 dX16_count_98 rfl (lv_at hl 1 rfl) ?_
        refine r_getR C hm flX16_274 dX16_count_99 hh (fun x33 _ hh => ?_)
        refine r_getI C hm flX16_241 dX16_count_102 hh (fun x34 _ hh => ?_)
        exact r_iretW hQ C hr hm hs hh dX16_count_105
      · rw [if_pos c35] at hh
        refine lv_iconst (v := 0) C.1 C.2.1 dX16_count_94 (by decide) ?_
        refine lv_goto (tgt := 105) C.1 C.2.1 dX16_count_95 (by decide) ?_
        exact r_iretW hQ C hr hm hs hh dX16_count_105
    · rw [if_neg c27_1] at hh
      by_cases c27_2 : a1 = 2
      · rw [if_pos c27_2] at hh
        refine r_tsw (tgt := 106) C dX16_count_8 c27_2 (by decide) (by decide) rfl (by decide) ?_
        refine r_aload_n C.1 C.2.1 dX16_count_106 rfl (lv_at hl 1 rfl) ?_
        refine r_getI C hm flX16_308 dX16_count_107 hh (fun x36 _ hh => ?_)
        exact r_iretW hQ C hr hm hs hh dX16_count_110
      · rw [if_neg c27_2] at hh
        by_cases c27_3 : a1 = 3
        · rw [if_pos c27_3] at hh
          refine r_tsw (tgt := 111) C dX16_count_8 c27_3 (by decide) (by decide) rfl (by decide) ?_
          refine r_aload_n C.1 C.2.1 dX16_count_111 rfl (lv_at hl 1 rfl) ?_
          refine r_getI C hm flX16_311 dX16_count_112 hh (fun x37 _ hh => ?_)
          exact r_iretW hQ C hr hm hs hh dX16_count_115
        · rw [if_neg c27_3] at hh
          by_cases c27_4 : a1 = 4
          · rw [if_pos c27_4] at hh
            refine r_tsw (tgt := 116) C dX16_count_8 c27_4 (by decide) (by decide) rfl (by decide) ?_
            refine r_aload_n C.1 C.2.1 dX16_count_116 rfl (lv_at hl 1 rfl) ?_
            refine r_getI C hm flX16_314 dX16_count_117 hh (fun x38 _ hh => ?_)
            exact r_iretW hQ C hr hm hs hh dX16_count_120
          · rw [if_neg c27_4] at hh
            by_cases c27_5 : a1 = 5
            · rw [if_pos c27_5] at hh
              refine r_tsw (tgt := 121) C dX16_count_8 c27_5 (by decide) (by decide) rfl (by decide) ?_
              refine lv_iconst (v := 0) C.1 C.2.1 dX16_count_121 (by decide) ?_
              refine lv_istore_n (i := 3) (lv' := [(3, .int 0), (2, .int 0), (0, va_rf (some a0)), (1, .int a1)]) C.1 C.2.1 dX16_count_122 rfl hl (by decide) rfl (fun ls hl => ?_)
              exact B123 FUEL _ _ _ _ _ _ _  hm hs (lv_sub hl [2, 1, 0] rfl) hh
            · rw [if_neg c27_5] at hh
              by_cases c27_6 : a1 = 6
              · rw [if_pos c27_6] at hh
                refine r_tsw (tgt := 188) C dX16_count_8 c27_6 (by decide) (by decide) rfl (by decide) ?_
                refine lv_iconst (v := 0) C.1 C.2.1 dX16_count_188 (by decide) ?_
                refine lv_istore_n (i := 3) (lv' := [(3, .int 0), (2, .int 0), (0, va_rf (some a0)), (1, .int a1)]) C.1 C.2.1 dX16_count_189 rfl hl (by decide) rfl (fun ls hl => ?_)
                exact B190 FUEL _ _ _ _ _ _ _  hm hs (lv_sub hl [2, 1, 0] rfl) hh
              · rw [if_neg c27_6] at hh
                by_cases c27_7 : a1 = 7
                · rw [if_pos c27_7] at hh
                  refine r_tsw (tgt := 224) C dX16_count_8 c27_7 (by decide) (by decide) rfl (by decide) ?_
                  refine lv_iconst (v := 0) C.1 C.2.1 dX16_count_224 (by decide) ?_
                  refine lv_istore_n (i := 3) (lv' := [(3, .int 0), (2, .int 0), (0, va_rf (some a0)), (1, .int a1)]) C.1 C.2.1 dX16_count_225 rfl hl (by decide) rfl (fun ls hl => ?_)
                  exact B226 FUEL _ _ _ _ _ _ _  hm hs (lv_sub hl [2, 1, 0] rfl) hh
                · rw [if_neg c27_7] at hh
                  by_cases c27_8 : a1 = 8
                  · rw [if_pos c27_8] at hh
                    refine r_tsw (tgt := 260) C dX16_count_8 c27_8 (by decide) (by decide) rfl (by decide) ?_
                    refine r_aload_n C.1 C.2.1 dX16_count_260 rfl (lv_at hl 1 rfl) ?_
                    refine r_getI C hm flX16_317 dX16_count_261 hh (fun x39 _ hh => ?_)
                    exact r_iretW hQ C hr hm hs hh dX16_count_264
                  · rw [if_neg c27_8] at hh
                    by_cases c27_9 : a1 = 9
                    · rw [if_pos c27_9] at hh
                      refine r_tsw (tgt := 265) C dX16_count_8 c27_9 (by decide) (by decide) rfl (by decide) ?_
                      refine r_aload_n C.1 C.2.1 dX16_count_265 rfl (lv_at hl 1 rfl) ?_
                      refine r_getI C hm flX16_320 dX16_count_266 hh (fun x40 _ hh => ?_)
                      exact r_iretW hQ C hr hm hs hh dX16_count_269
                    · rw [if_neg c27_9] at hh
                      by_cases c27_10 : a1 = 10
                      · rw [if_pos c27_10] at hh
                        refine r_tsw (tgt := 270) C dX16_count_8 c27_10 (by decide) (by decide) rfl (by decide) ?_
                        refine r_aload_n C.1 C.2.1 dX16_count_270 rfl (lv_at hl 1 rfl) ?_
                        refine r_getI C hm flX16_287 dX16_count_271 hh (fun x41 _ hh => ?_)
                        exact r_iretW hQ C hr hm hs hh dX16_count_274
                      · rw [if_neg c27_10] at hh
                        refine lv_tableOut (tgt := 275) C.1 C.2.1 dX16_count_8 (tsw_out11 c27_0 c27_1 c27_2 c27_3 c27_4 c27_5 c27_6 c27_7 c27_8 c27_9 c27_10) (by decide) ?_
                        refine lv_iconst (v := (-1)) C.1 C.2.1 dX16_count_275 (by decide) ?_
                        exact r_iretW hQ C hr hm hs hh dX16_count_276
def mX16_trouble (h : MHp) (a0 : Nat) : Option (Int32 × MHp) := (pI 17 0 h (some a0) 0).bind fun h1 => (gI 17 1 h1 (some a0)).bind fun x2 => some (x2, h1)
set_option maxRecDepth 100000 in
set_option maxHeartbeats 4000000 in
theorem c_X16_trouble (l : Launch) (G : Env0) (h : MHp) (a0 : Nat) (res : Int32 × MHp) (hh : mX16_trouble h a0 = some res) : MG l yX16_trouble cX16_trouble 1 (some .int) 0 0 0 0 G h [.ref a0] (some (.int res.1)) (res.2) := by
  refine MG_of (own := RX16) (plainFor_of_name (by decide)) rfl (Nat.le_of_ble_eq_true rfl) ?_
  intro p e s m args below meth c Q ls hQ C X hin hm hs hl hr
  have hl : lv_has ls 1 [(0, va_rf (some a0))] := hl
  unfold mX16_trouble at hh
  refine r_aload_n C.1 C.2.1 dX16_trouble_0 rfl (lv_at hl 0 rfl) ?_
  refine lv_iconst (v := 0) C.1 C.2.1 dX16_trouble_1 (by decide) ?_
  refine r_putI C hm hs flX16_109 (Or.inl fm_17_0) dX16_trouble_2 hh (fun h1 H locs _ hh hm hs => ?_)
  refine r_aload_n C.1 C.2.1 dX16_trouble_5 rfl (lv_at hl 0 rfl) ?_
  refine r_getI C hm flX16_112 dX16_trouble_6 hh (fun x2 _ hh => ?_)
  exact r_iretW hQ C hr hm hs hh dX16_trouble_9

theorem dX0_init_0 : decode cX0_init 0 = .ok (.aload_n 0, 1) := by decide +kernel
theorem dX0_init_1 : decode cX0_init 1 = .ok (.invokespecial 3, 3) := by decide +kernel
theorem dX0_init_4 : decode cX0_init 4 = .ok (.aload_n 0, 1) := by decide +kernel
theorem dX0_init_5 : decode cX0_init 5 = .ok (.iconst (-1), 1) := by decide +kernel
theorem dX0_init_6 : decode cX0_init 6 = .ok (.putfield 9, 3) := by decide +kernel
theorem dX0_init_9 : decode cX0_init 9 = .ok (.aload_n 0, 1) := by decide +kernel
theorem dX0_init_10 : decode cX0_init 10 = .ok (.iconst 3, 1) := by decide +kernel
theorem dX0_init_11 : decode cX0_init 11 = .ok (.newarray .int, 2) := by decide +kernel
theorem dX0_init_13 : decode cX0_init 13 = .ok (.putfield 15, 3) := by decide +kernel
theorem dX0_init_16 : decode cX0_init 16 = .ok (.aload_n 0, 1) := by decide +kernel
theorem dX0_init_17 : decode cX0_init 17 = .ok (.iconst 3, 1) := by decide +kernel
theorem dX0_init_18 : decode cX0_init 18 = .ok (.newarray .long, 2) := by decide +kernel
theorem dX0_init_20 : decode cX0_init 20 = .ok (.putfield 19, 3) := by decide +kernel
theorem dX0_init_23 : decode cX0_init 23 = .ok (.aload_n 0, 1) := by decide +kernel
theorem dX0_init_24 : decode cX0_init 24 = .ok (.iconst 3, 1) := by decide +kernel
theorem dX0_init_25 : decode cX0_init 25 = .ok (.newarray .long, 2) := by decide +kernel
theorem dX0_init_27 : decode cX0_init 27 = .ok (.putfield 23, 3) := by decide +kernel
theorem dX0_init_30 : decode cX0_init 30 = .ok (.aload_n 0, 1) := by decide +kernel
theorem dX0_init_31 : decode cX0_init 31 = .ok (.aload_n 1, 1) := by decide +kernel
theorem dX0_init_32 : decode cX0_init 32 = .ok (.putfield 26, 3) := by decide +kernel
theorem dX0_init_35 : decode cX0_init 35 = .ok (.return_, 1) := by decide +kernel
theorem dX0_clear_0 : decode cX0_clear 0 = .ok (.aload_n 0, 1) := by decide +kernel
theorem dX0_clear_1 : decode cX0_clear 1 = .ok (.iconst (-1), 1) := by decide +kernel
theorem dX0_clear_2 : decode cX0_clear 2 = .ok (.putfield 9, 3) := by decide +kernel
theorem dX0_clear_5 : decode cX0_clear 5 = .ok (.return_, 1) := by decide +kernel
theorem dX0_know_0 : decode cX0_know 0 = .ok (.iload_n 1, 1) := by decide +kernel
theorem dX0_know_1 : decode cX0_know 1 = .ok (.aload_n 0, 1) := by decide +kernel
theorem dX0_know_2 : decode cX0_know 2 = .ok (.getfield 9, 3) := by decide +kernel
theorem dX0_know_5 : decode cX0_know 5 = .ok (.if_icmp .eq 11, 3) := by decide +kernel
theorem dX0_know_8 : decode cX0_know 8 = .ok (.aload_n 0, 1) := by decide +kernel
theorem dX0_know_9 : decode cX0_know 9 = .ok (.getfield 15, 3) := by decide +kernel
theorem dX0_know_12 : decode cX0_know 12 = .ok (.iconst 0, 1) := by decide +kernel
theorem dX0_know_13 : decode cX0_know 13 = .ok (.invokestatic 30, 3) := by decide +kernel
theorem dX0_know_16 : decode cX0_know 16 = .ok (.aload_n 0, 1) := by decide +kernel
theorem dX0_know_17 : decode cX0_know 17 = .ok (.iload_n 1, 1) := by decide +kernel
theorem dX0_know_18 : decode cX0_know 18 = .ok (.putfield 9, 3) := by decide +kernel
theorem dX0_know_21 : decode cX0_know 21 = .ok (.iload_n 2, 1) := by decide +kernel
theorem dX0_know_22 : decode cX0_know 22 = .ok (.ifCond .lt 19, 3) := by decide +kernel
theorem dX0_know_25 : decode cX0_know 25 = .ok (.iload_n 2, 1) := by decide +kernel
theorem dX0_know_26 : decode cX0_know 26 = .ok (.aload_n 0, 1) := by decide +kernel
theorem dX0_know_27 : decode cX0_know 27 = .ok (.getfield 15, 3) := by decide +kernel
theorem dX0_know_30 : decode cX0_know 30 = .ok (.arraylength, 1) := by decide +kernel
theorem dX0_know_31 : decode cX0_know 31 = .ok (.if_icmp .ge 10, 3) := by decide +kernel
theorem dX0_know_34 : decode cX0_know 34 = .ok (.aload_n 0, 1) := by decide +kernel
theorem dX0_know_35 : decode cX0_know 35 = .ok (.getfield 15, 3) := by decide +kernel
theorem dX0_know_38 : decode cX0_know 38 = .ok (.iload_n 2, 1) := by decide +kernel
theorem dX0_know_39 : decode cX0_know 39 = .ok (.iload_n 3, 1) := by decide +kernel
theorem dX0_know_40 : decode cX0_know 40 = .ok (.iastore, 1) := by decide +kernel
theorem dX0_know_41 : decode cX0_know 41 = .ok (.return_, 1) := by decide +kernel
theorem dX0_reckon_0 : decode cX0_reckon 0 = .ok (.aload_n 0, 1) := by decide +kernel
theorem dX0_reckon_1 : decode cX0_reckon 1 = .ok (.aload_n 1, 1) := by decide +kernel
theorem dX0_reckon_2 : decode cX0_reckon 2 = .ok (.iload_n 2, 1) := by decide +kernel
theorem dX0_reckon_3 : decode cX0_reckon 3 = .ok (.invokevirtual 36, 3) := by decide +kernel
theorem dX0_reckon_6 : decode cX0_reckon 6 = .ok (.aload_n 0, 1) := by decide +kernel
theorem dX0_reckon_7 : decode cX0_reckon 7 = .ok (.lconst 0, 1) := by decide +kernel
theorem dX0_reckon_8 : decode cX0_reckon 8 = .ok (.putfield 40, 3) := by decide +kernel
theorem dX0_reckon_11 : decode cX0_reckon 11 = .ok (.aload_n 0, 1) := by decide +kernel
theorem dX0_reckon_12 : decode cX0_reckon 12 = .ok (.lconst 1, 1) := by decide +kernel
theorem dX0_reckon_13 : decode cX0_reckon 13 = .ok (.putfield 44, 3) := by decide +kernel
theorem dX0_reckon_16 : decode cX0_reckon 16 = .ok (.iconst 0, 1) := by decide +kernel
theorem dX0_reckon_17 : decode cX0_reckon 17 = .ok (.istore_n 3, 1) := by decide +kernel
theorem dX0_reckon_18 : decode cX0_reckon 18 = .ok (.iload_n 3, 1) := by decide +kernel
theorem dX0_reckon_19 : decode cX0_reckon 19 = .ok (.aload_n 0, 1) := by decide +kernel
theorem dX0_reckon_20 : decode cX0_reckon 20 = .ok (.getfield 15, 3) := by decide +kernel
theorem dX0_reckon_23 : decode cX0_reckon 23 = .ok (.arraylength, 1) := by decide +kernel
theorem dX0_reckon_24 : decode cX0_reckon 24 = .ok (.if_icmp .ge 44, 3) := by decide +kernel
theorem dX0_reckon_27 : decode cX0_reckon 27 = .ok (.aload_n 0, 1) := by decide +kernel
theorem dX0_reckon_28 : decode cX0_reckon 28 = .ok (.getfield 19, 3) := by decide +kernel
theorem dX0_reckon_31 : decode cX0_reckon 31 = .ok (.iload_n 3, 1) := by decide +kernel
theorem dX0_reckon_32 : decode cX0_reckon 32 = .ok (.laload, 1) := by decide +kernel
theorem dX0_reckon_33 : decode cX0_reckon 33 = .ok (.lconst 0, 1) := by decide +kernel
theorem dX0_reckon_34 : decode cX0_reckon 34 = .ok (.lcmp, 1) := by decide +kernel
theorem dX0_reckon_35 : decode cX0_reckon 35 = .ok (.ifCond .le 27, 3) := by decide +kernel
theorem dX0_reckon_38 : decode cX0_reckon 38 = .ok (.aload_n 0, 1) := by decide +kernel
theorem dX0_reckon_39 : decode cX0_reckon 39 = .ok (.aload_n 0, 1) := by decide +kernel
theorem dX0_reckon_40 : decode cX0_reckon 40 = .ok (.getfield 23, 3) := by decide +kernel
theorem dX0_reckon_43 : decode cX0_reckon 43 = .ok (.iload_n 3, 1) := by decide +kernel
theorem dX0_reckon_44 : decode cX0_reckon 44 = .ok (.laload, 1) := by decide +kernel
theorem dX0_reckon_45 : decode cX0_reckon 45 = .ok (.aload_n 0, 1) := by decide +kernel
theorem dX0_reckon_46 : decode cX0_reckon 46 = .ok (.getfield 15, 3) := by decide +kernel
theorem dX0_reckon_49 : decode cX0_reckon 49 = .ok (.iload_n 3, 1) := by decide +kernel
theorem dX0_reckon_50 : decode cX0_reckon 50 = .ok (.iaload, 1) := by decide +kernel
theorem dX0_reckon_51 : decode cX0_reckon 51 = .ok (.i2l, 1) := by decide +kernel
theorem dX0_reckon_52 : decode cX0_reckon 52 = .ok (.lmul, 1) := by decide +kernel
theorem dX0_reckon_53 : decode cX0_reckon 53 = .ok (.aload_n 0, 1) := by decide +kernel
theorem dX0_reckon_54 : decode cX0_reckon 54 = .ok (.getfield 19, 3) := by decide +kernel
theorem dX0_reckon_57 : decode cX0_reckon 57 = .ok (.iload_n 3, 1) := by decide +kernel
theorem dX0_reckon_58 : decode cX0_reckon 58 = .ok (.laload, 1) := by decide +kernel
theorem dX0_reckon_59 : decode cX0_reckon 59 = .ok (.invokevirtual 47, 3) := by decide +kernel
theorem dX0_reckon_62 : decode cX0_reckon 62 = .ok (.iinc 3 1, 3) := by decide +kernel
theorem dX0_reckon_65 : decode cX0_reckon 65 = .ok (.goto (-47), 3) := by decide +kernel
theorem dX0_reckon_68 : decode cX0_reckon 68 = .ok (.return_, 1) := by decide +kernel
theorem dX0_sumWeights_0 : decode cX0_sumWeights 0 = .ok (.aload_n 0, 1) := by decide +kernel
theorem dX0_sumWeights_1 : decode cX0_sumWeights 1 = .ok (.getfield 19, 3) := by decide +kernel
theorem dX0_sumWeights_4 : decode cX0_sumWeights 4 = .ok (.lconst 0, 1) := by decide +kernel
theorem dX0_sumWeights_5 : decode cX0_sumWeights 5 = .ok (.invokestatic 51, 3) := by decide +kernel
theorem dX0_sumWeights_8 : decode cX0_sumWeights 8 = .ok (.aload_n 0, 1) := by decide +kernel
theorem dX0_sumWeights_9 : decode cX0_sumWeights 9 = .ok (.getfield 23, 3) := by decide +kernel
theorem dX0_sumWeights_12 : decode cX0_sumWeights 12 = .ok (.lconst 0, 1) := by decide +kernel
theorem dX0_sumWeights_13 : decode cX0_sumWeights 13 = .ok (.invokestatic 51, 3) := by decide +kernel
theorem dX0_sumWeights_16 : decode cX0_sumWeights 16 = .ok (.aload_n 0, 1) := by decide +kernel
theorem dX0_sumWeights_17 : decode cX0_sumWeights 17 = .ok (.getfield 26, 3) := by decide +kernel
theorem dX0_sumWeights_20 : decode cX0_sumWeights 20 = .ok (.getfield 54, 3) := by decide +kernel
theorem dX0_sumWeights_23 : decode cX0_sumWeights 23 = .ok (.astore_n 3, 1) := by decide +kernel
theorem dX0_sumWeights_24 : decode cX0_sumWeights 24 = .ok (.iconst 0, 1) := by decide +kernel
theorem dX0_sumWeights_25 : decode cX0_sumWeights 25 = .ok (.istore 4, 2) := by decide +kernel
theorem dX0_sumWeights_27 : decode cX0_sumWeights 27 = .ok (.iload 4, 2) := by decide +kernel
theorem dX0_sumWeights_29 : decode cX0_sumWeights 29 = .ok (.aload_n 3, 1) := by decide +kernel
theorem dX0_sumWeights_30 : decode cX0_sumWeights 30 = .ok (.getfield 60, 3) := by decide +kernel
theorem dX0_sumWeights_33 : decode cX0_sumWeights 33 = .ok (.if_icmp .ge 132, 3) := by decide +kernel
theorem dX0_sumWeights_36 : decode cX0_sumWeights 36 = .ok (.iload 4, 2) := by decide +kernel
theorem dX0_sumWeights_38 : decode cX0_sumWeights 38 = .ok (.bipush 60, 2) := by decide +kernel
theorem dX0_sumWeights_40 : decode cX0_sumWeights 40 = .ok (.if_icmp .ge 125, 3) := by decide +kernel
theorem dX0_sumWeights_43 : decode cX0_sumWeights 43 = .ok (.aload_n 0, 1) := by decide +kernel
theorem dX0_sumWeights_44 : decode cX0_sumWeights 44 = .ok (.getfield 26, 3) := by decide +kernel
theorem dX0_sumWeights_47 : decode cX0_sumWeights 47 = .ok (.iload 4, 2) := by decide +kernel
theorem dX0_sumWeights_49 : decode cX0_sumWeights 49 = .ok (.aload_n 3, 1) := by decide +kernel
theorem dX0_sumWeights_50 : decode cX0_sumWeights 50 = .ok (.getfield 65, 3) := by decide +kernel
theorem dX0_sumWeights_53 : decode cX0_sumWeights 53 = .ok (.iconst 0, 1) := by decide +kernel
theorem dX0_sumWeights_54 : decode cX0_sumWeights 54 = .ok (.invokevirtual 68, 3) := by decide +kernel
theorem dX0_sumWeights_57 : decode cX0_sumWeights 57 = .ok (.ifCond .eq 20, 3) := by decide +kernel
theorem dX0_sumWeights_60 : decode cX0_sumWeights 60 = .ok (.aload_n 0, 1) := by decide +kernel
theorem dX0_sumWeights_61 : decode cX0_sumWeights 61 = .ok (.getfield 26, 3) := by decide +kernel
theorem dX0_sumWeights_64 : decode cX0_sumWeights 64 = .ok (.getfield 72, 3) := by decide +kernel
theorem dX0_sumWeights_67 : decode cX0_sumWeights 67 = .ok (.aload_n 0, 1) := by decide +kernel
theorem dX0_sumWeights_68 : decode cX0_sumWeights 68 = .ok (.getfield 9, 3) := by decide +kernel
theorem dX0_sumWeights_71 : decode cX0_sumWeights 71 = .ok (.invokestatic 75, 3) := by decide +kernel
theorem dX0_sumWeights_74 : decode cX0_sumWeights 74 = .ok (.goto 4, 3) := by decide +kernel
theorem dX0_sumWeights_77 : decode cX0_sumWeights 77 = .ok (.iconst (-1), 1) := by decide +kernel
theorem dX0_sumWeights_78 : decode cX0_sumWeights 78 = .ok (.istore 5, 2) := by decide +kernel
theorem dX0_sumWeights_80 : decode cX0_sumWeights 80 = .ok (.iload 5, 2) := by decide +kernel
theorem dX0_sumWeights_82 : decode cX0_sumWeights 82 = .ok (.ifCond .lt 77, 3) := by decide +kernel
theorem dX0_sumWeights_85 : decode cX0_sumWeights 85 = .ok (.iload 5, 2) := by decide +kernel
theorem dX0_sumWeights_87 : decode cX0_sumWeights 87 = .ok (.aload_n 0, 1) := by decide +kernel
theorem dX0_sumWeights_88 : decode cX0_sumWeights 88 = .ok (.getfield 19, 3) := by decide +kernel
theorem dX0_sumWeights_91 : decode cX0_sumWeights 91 = .ok (.arraylength, 1) := by decide +kernel
theorem dX0_sumWeights_92 : decode cX0_sumWeights 92 = .ok (.if_icmp .ge 67, 3) := by decide +kernel
theorem dX0_sumWeights_95 : decode cX0_sumWeights 95 = .ok (.aload_n 0, 1) := by decide +kernel
theorem dX0_sumWeights_96 : decode cX0_sumWeights 96 = .ok (.getfield 19, 3) := by decide +kernel
theorem dX0_sumWeights_99 : decode cX0_sumWeights 99 = .ok (.iload 5, 2) := by decide +kernel
theorem dX0_sumWeights_101 : decode cX0_sumWeights 101 = .ok (.dup2, 1) := by decide +kernel
theorem dX0_sumWeights_102 : decode cX0_sumWeights 102 = .ok (.laload, 1) := by decide +kernel
theorem dX0_sumWeights_103 : decode cX0_sumWeights 103 = .ok (.aload_n 3, 1) := by decide +kernel
theorem dX0_sumWeights_104 : decode cX0_sumWeights 104 = .ok (.getfield 79, 3) := by decide +kernel
theorem dX0_sumWeights_107 : decode cX0_sumWeights 107 = .ok (.iload 4, 2) := by decide +kernel
theorem dX0_sumWeights_109 : decode cX0_sumWeights 109 = .ok (.iaload, 1) := by decide +kernel
theorem dX0_sumWeights_110 : decode cX0_sumWeights 110 = .ok (.i2l, 1) := by decide +kernel
theorem dX0_sumWeights_111 : decode cX0_sumWeights 111 = .ok (.ladd, 1) := by decide +kernel
theorem dX0_sumWeights_112 : decode cX0_sumWeights 112 = .ok (.lastore, 1) := by decide +kernel
theorem dX0_sumWeights_113 : decode cX0_sumWeights 113 = .ok (.aload_n 1, 1) := by decide +kernel
theorem dX0_sumWeights_114 : decode cX0_sumWeights 114 = .ok (.aload_n 0, 1) := by decide +kernel
theorem dX0_sumWeights_115 : decode cX0_sumWeights 115 = .ok (.getfield 26, 3) := by decide +kernel
theorem dX0_sumWeights_118 : decode cX0_sumWeights 118 = .ok (.getfield 72, 3) := by decide +kernel
theorem dX0_sumWeights_121 : decode cX0_sumWeights 121 = .ok (.invokevirtual 82, 3) := by decide +kernel
theorem dX0_sumWeights_124 : decode cX0_sumWeights 124 = .ok (.iload_n 2, 1) := by decide +kernel
theorem dX0_sumWeights_125 : decode cX0_sumWeights 125 = .ok (.if_icmp .ne 34, 3) := by decide +kernel
theorem dX0_sumWeights_128 : decode cX0_sumWeights 128 = .ok (.aload_n 0, 1) := by decide +kernel
theorem dX0_sumWeights_129 : decode cX0_sumWeights 129 = .ok (.getfield 23, 3) := by decide +kernel
theorem dX0_sumWeights_132 : decode cX0_sumWeights 132 = .ok (.iload 5, 2) := by decide +kernel
theorem dX0_sumWeights_134 : decode cX0_sumWeights 134 = .ok (.dup2, 1) := by decide +kernel
theorem dX0_sumWeights_135 : decode cX0_sumWeights 135 = .ok (.laload, 1) := by decide +kernel
theorem dX0_sumWeights_136 : decode cX0_sumWeights 136 = .ok (.aload_n 3, 1) := by decide +kernel
theorem dX0_sumWeights_137 : decode cX0_sumWeights 137 = .ok (.getfield 79, 3) := by decide +kernel
theorem dX0_sumWeights_140 : decode cX0_sumWeights 140 = .ok (.iload 4, 2) := by decide +kernel
theorem dX0_sumWeights_142 : decode cX0_sumWeights 142 = .ok (.iaload, 1) := by decide +kernel
theorem dX0_sumWeights_143 : decode cX0_sumWeights 143 = .ok (.i2l, 1) := by decide +kernel
theorem dX0_sumWeights_144 : decode cX0_sumWeights 144 = .ok (.aload_n 1, 1) := by decide +kernel
theorem dX0_sumWeights_145 : decode cX0_sumWeights 145 = .ok (.aload_n 0, 1) := by decide +kernel
theorem dX0_sumWeights_146 : decode cX0_sumWeights 146 = .ok (.getfield 26, 3) := by decide +kernel
theorem dX0_sumWeights_149 : decode cX0_sumWeights 149 = .ok (.getfield 72, 3) := by decide +kernel
theorem dX0_sumWeights_152 : decode cX0_sumWeights 152 = .ok (.invokevirtual 88, 3) := by decide +kernel
theorem dX0_sumWeights_155 : decode cX0_sumWeights 155 = .ok (.i2l, 1) := by decide +kernel
theorem dX0_sumWeights_156 : decode cX0_sumWeights 156 = .ok (.lmul, 1) := by decide +kernel
theorem dX0_sumWeights_157 : decode cX0_sumWeights 157 = .ok (.ladd, 1) := by decide +kernel
theorem dX0_sumWeights_158 : decode cX0_sumWeights 158 = .ok (.lastore, 1) := by decide +kernel
theorem dX0_sumWeights_159 : decode cX0_sumWeights 159 = .ok (.iinc 4 1, 3) := by decide +kernel
theorem dX0_sumWeights_162 : decode cX0_sumWeights 162 = .ok (.goto (-135), 3) := by decide +kernel
theorem dX0_sumWeights_165 : decode cX0_sumWeights 165 = .ok (.return_, 1) := by decide +kernel
theorem dX0_add_0 : decode cX0_add 0 = .ok (.aload_n 0, 1) := by decide +kernel
theorem dX0_add_1 : decode cX0_add 1 = .ok (.getfield 40, 3) := by decide +kernel
theorem dX0_add_4 : decode cX0_add 4 = .ok (.lload_n 3, 1) := by decide +kernel
theorem dX0_add_5 : decode cX0_add 5 = .ok (.lmul, 1) := by decide +kernel
theorem dX0_add_6 : decode cX0_add 6 = .ok (.lload_n 1, 1) := by decide +kernel
theorem dX0_add_7 : decode cX0_add 7 = .ok (.aload_n 0, 1) := by decide +kernel
theorem dX0_add_8 : decode cX0_add 8 = .ok (.getfield 44, 3) := by decide +kernel
theorem dX0_add_11 : decode cX0_add 11 = .ok (.lmul, 1) := by decide +kernel
theorem dX0_add_12 : decode cX0_add 12 = .ok (.ladd, 1) := by decide +kernel
theorem dX0_add_13 : decode cX0_add 13 = .ok (.lstore 5, 2) := by decide +kernel
theorem dX0_add_15 : decode cX0_add 15 = .ok (.aload_n 0, 1) := by decide +kernel
theorem dX0_add_16 : decode cX0_add 16 = .ok (.getfield 44, 3) := by decide +kernel
theorem dX0_add_19 : decode cX0_add 19 = .ok (.lload_n 3, 1) := by decide +kernel
theorem dX0_add_20 : decode cX0_add 20 = .ok (.lmul, 1) := by decide +kernel
theorem dX0_add_21 : decode cX0_add 21 = .ok (.lstore 7, 2) := by decide +kernel
theorem dX0_add_23 : decode cX0_add 23 = .ok (.lload 5, 2) := by decide +kernel
theorem dX0_add_25 : decode cX0_add 25 = .ok (.lload 7, 2) := by decide +kernel
theorem dX0_add_27 : decode cX0_add 27 = .ok (.invokestatic 91, 3) := by decide +kernel
theorem dX0_add_30 : decode cX0_add 30 = .ok (.lstore 9, 2) := by decide +kernel
theorem dX0_add_32 : decode cX0_add 32 = .ok (.lload 9, 2) := by decide +kernel
theorem dX0_add_34 : decode cX0_add 34 = .ok (.lconst 0, 1) := by decide +kernel
theorem dX0_add_35 : decode cX0_add 35 = .ok (.lcmp, 1) := by decide +kernel
theorem dX0_add_36 : decode cX0_add 36 = .ok (.ifCond .le 21, 3) := by decide +kernel
theorem dX0_add_39 : decode cX0_add 39 = .ok (.aload_n 0, 1) := by decide +kernel
theorem dX0_add_40 : decode cX0_add 40 = .ok (.lload 5, 2) := by decide +kernel
theorem dX0_add_42 : decode cX0_add 42 = .ok (.lload 9, 2) := by decide +kernel
theorem dX0_add_44 : decode cX0_add 44 = .ok (.ldiv, 1) := by decide +kernel
theorem dX0_add_45 : decode cX0_add 45 = .ok (.putfield 40, 3) := by decide +kernel
theorem dX0_add_48 : decode cX0_add 48 = .ok (.aload_n 0, 1) := by decide +kernel
theorem dX0_add_49 : decode cX0_add 49 = .ok (.lload 7, 2) := by decide +kernel
theorem dX0_add_51 : decode cX0_add 51 = .ok (.lload 9, 2) := by decide +kernel
theorem dX0_add_53 : decode cX0_add 53 = .ok (.ldiv, 1) := by decide +kernel
theorem dX0_add_54 : decode cX0_add 54 = .ok (.putfield 44, 3) := by decide +kernel
theorem dX0_add_57 : decode cX0_add 57 = .ok (.return_, 1) := by decide +kernel
theorem dX0_commonDivisor_0 : decode cX0_commonDivisor 0 = .ok (.iconst 0, 1) := by decide +kernel
theorem dX0_commonDivisor_1 : decode cX0_commonDivisor 1 = .ok (.istore 4, 2) := by decide +kernel
theorem dX0_commonDivisor_3 : decode cX0_commonDivisor 3 = .ok (.iload 4, 2) := by decide +kernel
theorem dX0_commonDivisor_5 : decode cX0_commonDivisor 5 = .ok (.ldc 95, 2) := by decide +kernel
theorem dX0_commonDivisor_7 : decode cX0_commonDivisor 7 = .ok (.if_icmp .ge 25, 3) := by decide +kernel
theorem dX0_commonDivisor_10 : decode cX0_commonDivisor 10 = .ok (.lload_n 2, 1) := by decide +kernel
theorem dX0_commonDivisor_11 : decode cX0_commonDivisor 11 = .ok (.lconst 0, 1) := by decide +kernel
theorem dX0_commonDivisor_12 : decode cX0_commonDivisor 12 = .ok (.lcmp, 1) := by decide +kernel
theorem dX0_commonDivisor_13 : decode cX0_commonDivisor 13 = .ok (.ifCond .eq 19, 3) := by decide +kernel
theorem dX0_commonDivisor_16 : decode cX0_commonDivisor 16 = .ok (.lload_n 0, 1) := by decide +kernel
theorem dX0_commonDivisor_17 : decode cX0_commonDivisor 17 = .ok (.lload_n 2, 1) := by decide +kernel
theorem dX0_commonDivisor_18 : decode cX0_commonDivisor 18 = .ok (.lrem, 1) := by decide +kernel
theorem dX0_commonDivisor_19 : decode cX0_commonDivisor 19 = .ok (.lstore 5, 2) := by decide +kernel
theorem dX0_commonDivisor_21 : decode cX0_commonDivisor 21 = .ok (.lload_n 2, 1) := by decide +kernel
theorem dX0_commonDivisor_22 : decode cX0_commonDivisor 22 = .ok (.lstore_n 0, 1) := by decide +kernel
theorem dX0_commonDivisor_23 : decode cX0_commonDivisor 23 = .ok (.lload 5, 2) := by decide +kernel
theorem dX0_commonDivisor_25 : decode cX0_commonDivisor 25 = .ok (.lstore_n 2, 1) := by decide +kernel
theorem dX0_commonDivisor_26 : decode cX0_commonDivisor 26 = .ok (.iinc 4 1, 3) := by decide +kernel
theorem dX0_commonDivisor_29 : decode cX0_commonDivisor 29 = .ok (.goto (-26), 3) := by decide +kernel
theorem dX0_commonDivisor_32 : decode cX0_commonDivisor 32 = .ok (.lload_n 0, 1) := by decide +kernel
theorem dX0_commonDivisor_33 : decode cX0_commonDivisor 33 = .ok (.lreturn, 1) := by decide +kernel
theorem dX1_init_0 : decode cX1_init 0 = .ok (.aload_n 0, 1) := by decide +kernel
theorem dX1_init_1 : decode cX1_init 1 = .ok (.invokespecial 3, 3) := by decide +kernel
theorem dX1_init_4 : decode cX1_init 4 = .ok (.aload_n 0, 1) := by decide +kernel
theorem dX1_init_5 : decode cX1_init 5 = .ok (.bipush 6, 2) := by decide +kernel
theorem dX1_init_7 : decode cX1_init 7 = .ok (.newarray .long, 2) := by decide +kernel
theorem dX1_init_9 : decode cX1_init 9 = .ok (.putfield 9, 3) := by decide +kernel
theorem dX1_init_12 : decode cX1_init 12 = .ok (.aload_n 0, 1) := by decide +kernel
theorem dX1_init_13 : decode cX1_init 13 = .ok (.bipush 6, 2) := by decide +kernel
theorem dX1_init_15 : decode cX1_init 15 = .ok (.newarray .int, 2) := by decide +kernel
theorem dX1_init_17 : decode cX1_init 17 = .ok (.putfield 15, 3) := by decide +kernel
theorem dX1_init_20 : decode cX1_init 20 = .ok (.aload_n 0, 1) := by decide +kernel
theorem dX1_init_21 : decode cX1_init 21 = .ok (.bipush 6, 2) := by decide +kernel
theorem dX1_init_23 : decode cX1_init 23 = .ok (.newarray .int, 2) := by decide +kernel
theorem dX1_init_25 : decode cX1_init 25 = .ok (.putfield 19, 3) := by decide +kernel
theorem dX1_init_28 : decode cX1_init 28 = .ok (.aload_n 0, 1) := by decide +kernel
theorem dX1_init_29 : decode cX1_init 29 = .ok (.bipush 12, 2) := by decide +kernel
theorem dX1_init_31 : decode cX1_init 31 = .ok (.anewarray 22, 3) := by decide +kernel
theorem dX1_init_34 : decode cX1_init 34 = .ok (.putfield 24, 3) := by decide +kernel
theorem dX1_init_37 : decode cX1_init 37 = .ok (.aload_n 0, 1) := by decide +kernel
theorem dX1_init_38 : decode cX1_init 38 = .ok (.iconst 1, 1) := by decide +kernel
theorem dX1_init_39 : decode cX1_init 39 = .ok (.putfield 28, 3) := by decide +kernel
theorem dX1_init_42 : decode cX1_init 42 = .ok (.iconst 0, 1) := by decide +kernel
theorem dX1_init_43 : decode cX1_init 43 = .ok (.istore_n 1, 1) := by decide +kernel
theorem dX1_init_44 : decode cX1_init 44 = .ok (.iload_n 1, 1) := by decide +kernel
theorem dX1_init_45 : decode cX1_init 45 = .ok (.aload_n 0, 1) := by decide +kernel
theorem dX1_init_46 : decode cX1_init 46 = .ok (.getfield 24, 3) := by decide +kernel
theorem dX1_init_49 : decode cX1_init 49 = .ok (.arraylength, 1) := by decide +kernel
theorem dX1_init_50 : decode cX1_init 50 = .ok (.if_icmp .ge 22, 3) := by decide +kernel
theorem dX1_init_53 : decode cX1_init 53 = .ok (.aload_n 0, 1) := by decide +kernel
theorem dX1_init_54 : decode cX1_init 54 = .ok (.getfield 24, 3) := by decide +kernel
theorem dX1_init_57 : decode cX1_init 57 = .ok (.iload_n 1, 1) := by decide +kernel
theorem dX1_init_58 : decode cX1_init 58 = .ok (.new 22, 3) := by decide +kernel
theorem dX1_init_61 : decode cX1_init 61 = .ok (.dup, 1) := by decide +kernel
theorem dX1_init_62 : decode cX1_init 62 = .ok (.invokespecial 32, 3) := by decide +kernel
theorem dX1_init_65 : decode cX1_init 65 = .ok (.aastore, 1) := by decide +kernel
theorem dX1_init_66 : decode cX1_init 66 = .ok (.iinc 1 1, 3) := by decide +kernel
theorem dX1_init_69 : decode cX1_init 69 = .ok (.goto (-25), 3) := by decide +kernel
theorem dX1_init_72 : decode cX1_init 72 = .ok (.return_, 1) := by decide +kernel
theorem dX1_clear_0 : decode cX1_clear 0 = .ok (.aload_n 0, 1) := by decide +kernel
theorem dX1_clear_1 : decode cX1_clear 1 = .ok (.iconst 0, 1) := by decide +kernel
theorem dX1_clear_2 : decode cX1_clear 2 = .ok (.putfield 33, 3) := by decide +kernel
theorem dX1_clear_5 : decode cX1_clear 5 = .ok (.aload_n 0, 1) := by decide +kernel
theorem dX1_clear_6 : decode cX1_clear 6 = .ok (.iconst 0, 1) := by decide +kernel
theorem dX1_clear_7 : decode cX1_clear 7 = .ok (.putfield 36, 3) := by decide +kernel
theorem dX1_clear_10 : decode cX1_clear 10 = .ok (.aload_n 0, 1) := by decide +kernel
theorem dX1_clear_11 : decode cX1_clear 11 = .ok (.iconst 1, 1) := by decide +kernel
theorem dX1_clear_12 : decode cX1_clear 12 = .ok (.putfield 28, 3) := by decide +kernel
theorem dX1_clear_15 : decode cX1_clear 15 = .ok (.return_, 1) := by decide +kernel
theorem dX1_addField_0 : decode cX1_addField 0 = .ok (.aload_n 0, 1) := by decide +kernel
theorem dX1_addField_1 : decode cX1_addField 1 = .ok (.getfield 33, 3) := by decide +kernel
theorem dX1_addField_4 : decode cX1_addField 4 = .ok (.bipush 6, 2) := by decide +kernel
theorem dX1_addField_6 : decode cX1_addField 6 = .ok (.if_icmp .lt 4, 3) := by decide +kernel
theorem dX1_addField_9 : decode cX1_addField 9 = .ok (.return_, 1) := by decide +kernel
theorem dX1_addField_10 : decode cX1_addField 10 = .ok (.aload_n 0, 1) := by decide +kernel
theorem dX1_addField_11 : decode cX1_addField 11 = .ok (.getfield 9, 3) := by decide +kernel
theorem dX1_addField_14 : decode cX1_addField 14 = .ok (.aload_n 0, 1) := by decide +kernel
theorem dX1_addField_15 : decode cX1_addField 15 = .ok (.getfield 33, 3) := by decide +kernel
theorem dX1_addField_18 : decode cX1_addField 18 = .ok (.lload_n 1, 1) := by decide +kernel
theorem dX1_addField_19 : decode cX1_addField 19 = .ok (.lastore, 1) := by decide +kernel
theorem dX1_addField_20 : decode cX1_addField 20 = .ok (.aload_n 0, 1) := by decide +kernel
theorem dX1_addField_21 : decode cX1_addField 21 = .ok (.getfield 15, 3) := by decide +kernel
theorem dX1_addField_24 : decode cX1_addField 24 = .ok (.aload_n 0, 1) := by decide +kernel
theorem dX1_addField_25 : decode cX1_addField 25 = .ok (.getfield 33, 3) := by decide +kernel
theorem dX1_addField_28 : decode cX1_addField 28 = .ok (.iload_n 3, 1) := by decide +kernel
theorem dX1_addField_29 : decode cX1_addField 29 = .ok (.iastore, 1) := by decide +kernel
theorem dX1_addField_30 : decode cX1_addField 30 = .ok (.aload_n 0, 1) := by decide +kernel
theorem dX1_addField_31 : decode cX1_addField 31 = .ok (.getfield 19, 3) := by decide +kernel
theorem dX1_addField_34 : decode cX1_addField 34 = .ok (.aload_n 0, 1) := by decide +kernel
theorem dX1_addField_35 : decode cX1_addField 35 = .ok (.getfield 33, 3) := by decide +kernel
theorem dX1_addField_38 : decode cX1_addField 38 = .ok (.iload 4, 2) := by decide +kernel
theorem dX1_addField_40 : decode cX1_addField 40 = .ok (.iastore, 1) := by decide +kernel
theorem dX1_addField_41 : decode cX1_addField 41 = .ok (.aload_n 0, 1) := by decide +kernel
theorem dX1_addField_42 : decode cX1_addField 42 = .ok (.dup, 1) := by decide +kernel
theorem dX1_addField_43 : decode cX1_addField 43 = .ok (.getfield 28, 3) := by decide +kernel
theorem dX1_addField_46 : decode cX1_addField 46 = .ok (.iload_n 3, 1) := by decide +kernel
theorem dX1_addField_47 : decode cX1_addField 47 = .ok (.iconst 1, 1) := by decide +kernel
theorem dX1_addField_48 : decode cX1_addField 48 = .ok (.iadd, 1) := by decide +kernel
theorem dX1_addField_49 : decode cX1_addField 49 = .ok (.imul, 1) := by decide +kernel
theorem dX1_addField_50 : decode cX1_addField 50 = .ok (.putfield 28, 3) := by decide +kernel
theorem dX1_addField_53 : decode cX1_addField 53 = .ok (.aload_n 0, 1) := by decide +kernel
theorem dX1_addField_54 : decode cX1_addField 54 = .ok (.dup, 1) := by decide +kernel
theorem dX1_addField_55 : decode cX1_addField 55 = .ok (.getfield 33, 3) := by decide +kernel
theorem dX1_addField_58 : decode cX1_addField 58 = .ok (.iconst 1, 1) := by decide +kernel
theorem dX1_addField_59 : decode cX1_addField 59 = .ok (.iadd, 1) := by decide +kernel
theorem dX1_addField_60 : decode cX1_addField 60 = .ok (.putfield 33, 3) := by decide +kernel
theorem dX1_addField_63 : decode cX1_addField 63 = .ok (.return_, 1) := by decide +kernel
theorem dX1_fieldNamed_0 : decode cX1_fieldNamed 0 = .ok (.iconst 0, 1) := by decide +kernel
theorem dX1_fieldNamed_1 : decode cX1_fieldNamed 1 = .ok (.istore_n 3, 1) := by decide +kernel
theorem dX1_fieldNamed_2 : decode cX1_fieldNamed 2 = .ok (.iload_n 3, 1) := by decide +kernel
theorem dX1_fieldNamed_3 : decode cX1_fieldNamed 3 = .ok (.aload_n 0, 1) := by decide +kernel
theorem dX1_fieldNamed_4 : decode cX1_fieldNamed 4 = .ok (.getfield 33, 3) := by decide +kernel
theorem dX1_fieldNamed_7 : decode cX1_fieldNamed 7 = .ok (.if_icmp .ge 28, 3) := by decide +kernel
theorem dX1_fieldNamed_10 : decode cX1_fieldNamed 10 = .ok (.iload_n 3, 1) := by decide +kernel
theorem dX1_fieldNamed_11 : decode cX1_fieldNamed 11 = .ok (.bipush 6, 2) := by decide +kernel
theorem dX1_fieldNamed_13 : decode cX1_fieldNamed 13 = .ok (.if_icmp .ge 22, 3) := by decide +kernel
theorem dX1_fieldNamed_16 : decode cX1_fieldNamed 16 = .ok (.aload_n 0, 1) := by decide +kernel
theorem dX1_fieldNamed_17 : decode cX1_fieldNamed 17 = .ok (.getfield 9, 3) := by decide +kernel
theorem dX1_fieldNamed_20 : decode cX1_fieldNamed 20 = .ok (.iload_n 3, 1) := by decide +kernel
theorem dX1_fieldNamed_21 : decode cX1_fieldNamed 21 = .ok (.laload, 1) := by decide +kernel
theorem dX1_fieldNamed_22 : decode cX1_fieldNamed 22 = .ok (.lload_n 1, 1) := by decide +kernel
theorem dX1_fieldNamed_23 : decode cX1_fieldNamed 23 = .ok (.lcmp, 1) := by decide +kernel
theorem dX1_fieldNamed_24 : decode cX1_fieldNamed 24 = .ok (.ifCond .ne 5, 3) := by decide +kernel
theorem dX1_fieldNamed_27 : decode cX1_fieldNamed 27 = .ok (.iload_n 3, 1) := by decide +kernel
theorem dX1_fieldNamed_28 : decode cX1_fieldNamed 28 = .ok (.ireturn, 1) := by decide +kernel
theorem dX1_fieldNamed_29 : decode cX1_fieldNamed 29 = .ok (.iinc 3 1, 3) := by decide +kernel
theorem dX1_fieldNamed_32 : decode cX1_fieldNamed 32 = .ok (.goto (-30), 3) := by decide +kernel
theorem dX1_fieldNamed_35 : decode cX1_fieldNamed 35 = .ok (.iconst (-1), 1) := by decide +kernel
theorem dX1_fieldNamed_36 : decode cX1_fieldNamed 36 = .ok (.ireturn, 1) := by decide +kernel
theorem dX1_hasField_0 : decode cX1_hasField 0 = .ok (.iload_n 1, 1) := by decide +kernel
theorem dX1_hasField_1 : decode cX1_hasField 1 = .ok (.ifCond .lt 21, 3) := by decide +kernel
theorem dX1_hasField_4 : decode cX1_hasField 4 = .ok (.iload_n 1, 1) := by decide +kernel
theorem dX1_hasField_5 : decode cX1_hasField 5 = .ok (.aload_n 0, 1) := by decide +kernel
theorem dX1_hasField_6 : decode cX1_hasField 6 = .ok (.getfield 33, 3) := by decide +kernel
theorem dX1_hasField_9 : decode cX1_hasField 9 = .ok (.if_icmp .ge 13, 3) := by decide +kernel
theorem dX1_hasField_12 : decode cX1_hasField 12 = .ok (.iload_n 1, 1) := by decide +kernel
theorem dX1_hasField_13 : decode cX1_hasField 13 = .ok (.bipush 6, 2) := by decide +kernel
theorem dX1_hasField_15 : decode cX1_hasField 15 = .ok (.if_icmp .ge 7, 3) := by decide +kernel
theorem dX1_hasField_18 : decode cX1_hasField 18 = .ok (.iconst 1, 1) := by decide +kernel
theorem dX1_hasField_19 : decode cX1_hasField 19 = .ok (.goto 4, 3) := by decide +kernel
theorem dX1_hasField_22 : decode cX1_hasField 22 = .ok (.iconst 0, 1) := by decide +kernel
theorem dX1_hasField_23 : decode cX1_hasField 23 = .ok (.ireturn, 1) := by decide +kernel
theorem dX1_topOf_0 : decode cX1_topOf 0 = .ok (.aload_n 0, 1) := by decide +kernel
theorem dX1_topOf_1 : decode cX1_topOf 1 = .ok (.iload_n 1, 1) := by decide +kernel
theorem dX1_topOf_2 : decode cX1_topOf 2 = .ok (.invokevirtual 39, 3) := by decide +kernel
theorem dX1_topOf_5 : decode cX1_topOf 5 = .ok (.ifCond .eq 12, 3) := by decide +kernel
theorem dX1_topOf_8 : decode cX1_topOf 8 = .ok (.aload_n 0, 1) := by decide +kernel
theorem dX1_topOf_9 : decode cX1_topOf 9 = .ok (.getfield 15, 3) := by decide +kernel
theorem dX1_topOf_12 : decode cX1_topOf 12 = .ok (.iload_n 1, 1) := by decide +kernel
theorem dX1_topOf_13 : decode cX1_topOf 13 = .ok (.iaload, 1) := by decide +kernel
theorem dX1_topOf_14 : decode cX1_topOf 14 = .ok (.goto 4, 3) := by decide +kernel
theorem dX1_topOf_17 : decode cX1_topOf 17 = .ok (.iconst (-1), 1) := by decide +kernel
theorem dX1_topOf_18 : decode cX1_topOf 18 = .ok (.ireturn, 1) := by decide +kernel
theorem dX1_hasValue_0 : decode cX1_hasValue 0 = .ok (.iload_n 2, 1) := by decide +kernel
theorem dX1_hasValue_1 : decode cX1_hasValue 1 = .ok (.ifCond .lt 16, 3) := by decide +kernel
theorem dX1_hasValue_4 : decode cX1_hasValue 4 = .ok (.iload_n 2, 1) := by decide +kernel
theorem dX1_hasValue_5 : decode cX1_hasValue 5 = .ok (.aload_n 0, 1) := by decide +kernel
theorem dX1_hasValue_6 : decode cX1_hasValue 6 = .ok (.iload_n 1, 1) := by decide +kernel
theorem dX1_hasValue_7 : decode cX1_hasValue 7 = .ok (.invokevirtual 43, 3) := by decide +kernel
theorem dX1_hasValue_10 : decode cX1_hasValue 10 = .ok (.if_icmp .gt 7, 3) := by decide +kernel
theorem dX1_hasValue_13 : decode cX1_hasValue 13 = .ok (.iconst 1, 1) := by decide +kernel
theorem dX1_hasValue_14 : decode cX1_hasValue 14 = .ok (.goto 4, 3) := by decide +kernel
theorem dX1_hasValue_17 : decode cX1_hasValue 17 = .ok (.iconst 0, 1) := by decide +kernel
theorem dX1_hasValue_18 : decode cX1_hasValue 18 = .ok (.ireturn, 1) := by decide +kernel
theorem dX1_allows_0 : decode cX1_allows 0 = .ok (.iconst 0, 1) := by decide +kernel
theorem dX1_allows_1 : decode cX1_allows 1 = .ok (.istore_n 2, 1) := by decide +kernel
theorem dX1_allows_2 : decode cX1_allows 2 = .ok (.iload_n 2, 1) := by decide +kernel
theorem dX1_allows_3 : decode cX1_allows 3 = .ok (.aload_n 0, 1) := by decide +kernel
theorem dX1_allows_4 : decode cX1_allows 4 = .ok (.getfield 33, 3) := by decide +kernel
theorem dX1_allows_7 : decode cX1_allows 7 = .ok (.if_icmp .ge 35, 3) := by decide +kernel
theorem dX1_allows_10 : decode cX1_allows 10 = .ok (.iload_n 2, 1) := by decide +kernel
theorem dX1_allows_11 : decode cX1_allows 11 = .ok (.aload_n 1, 1) := by decide +kernel
theorem dX1_allows_12 : decode cX1_allows 12 = .ok (.arraylength, 1) := by decide +kernel
theorem dX1_allows_13 : decode cX1_allows 13 = .ok (.if_icmp .ge 29, 3) := by decide +kernel
theorem dX1_allows_16 : decode cX1_allows 16 = .ok (.aload_n 1, 1) := by decide +kernel
theorem dX1_allows_17 : decode cX1_allows 17 = .ok (.iload_n 2, 1) := by decide +kernel
theorem dX1_allows_18 : decode cX1_allows 18 = .ok (.iaload, 1) := by decide +kernel
theorem dX1_allows_19 : decode cX1_allows 19 = .ok (.iconst (-1), 1) := by decide +kernel
theorem dX1_allows_20 : decode cX1_allows 20 = .ok (.if_icmp .eq 16, 3) := by decide +kernel
theorem dX1_allows_23 : decode cX1_allows 23 = .ok (.aload_n 0, 1) := by decide +kernel
theorem dX1_allows_24 : decode cX1_allows 24 = .ok (.iload_n 2, 1) := by decide +kernel
theorem dX1_allows_25 : decode cX1_allows 25 = .ok (.aload_n 1, 1) := by decide +kernel
theorem dX1_allows_26 : decode cX1_allows 26 = .ok (.iload_n 2, 1) := by decide +kernel
theorem dX1_allows_27 : decode cX1_allows 27 = .ok (.iaload, 1) := by decide +kernel
theorem dX1_allows_28 : decode cX1_allows 28 = .ok (.invokevirtual 47, 3) := by decide +kernel
theorem dX1_allows_31 : decode cX1_allows 31 = .ok (.ifCond .ne 5, 3) := by decide +kernel
theorem dX1_allows_34 : decode cX1_allows 34 = .ok (.iconst 0, 1) := by decide +kernel
theorem dX1_allows_35 : decode cX1_allows 35 = .ok (.ireturn, 1) := by decide +kernel
theorem dX1_allows_36 : decode cX1_allows 36 = .ok (.iinc 2 1, 3) := by decide +kernel
theorem dX1_allows_39 : decode cX1_allows 39 = .ok (.goto (-37), 3) := by decide +kernel
theorem dX1_allows_42 : decode cX1_allows 42 = .ok (.iconst 1, 1) := by decide +kernel
theorem dX1_allows_43 : decode cX1_allows 43 = .ok (.ireturn, 1) := by decide +kernel
theorem dX1_ruleThatHolds_0 : decode cX1_ruleThatHolds 0 = .ok (.iconst 0, 1) := by decide +kernel
theorem dX1_ruleThatHolds_1 : decode cX1_ruleThatHolds 1 = .ok (.istore_n 2, 1) := by decide +kernel
theorem dX1_ruleThatHolds_2 : decode cX1_ruleThatHolds 2 = .ok (.iload_n 2, 1) := by decide +kernel
theorem dX1_ruleThatHolds_3 : decode cX1_ruleThatHolds 3 = .ok (.aload_n 0, 1) := by decide +kernel
theorem dX1_ruleThatHolds_4 : decode cX1_ruleThatHolds 4 = .ok (.getfield 36, 3) := by decide +kernel
theorem dX1_ruleThatHolds_7 : decode cX1_ruleThatHolds 7 = .ok (.if_icmp .ge 30, 3) := by decide +kernel
theorem dX1_ruleThatHolds_10 : decode cX1_ruleThatHolds 10 = .ok (.iload_n 2, 1) := by decide +kernel
theorem dX1_ruleThatHolds_11 : decode cX1_ruleThatHolds 11 = .ok (.bipush 12, 2) := by decide +kernel
theorem dX1_ruleThatHolds_13 : decode cX1_ruleThatHolds 13 = .ok (.if_icmp .ge 24, 3) := by decide +kernel
theorem dX1_ruleThatHolds_16 : decode cX1_ruleThatHolds 16 = .ok (.aload_n 0, 1) := by decide +kernel
theorem dX1_ruleThatHolds_17 : decode cX1_ruleThatHolds 17 = .ok (.getfield 24, 3) := by decide +kernel
theorem dX1_ruleThatHolds_20 : decode cX1_ruleThatHolds 20 = .ok (.iload_n 2, 1) := by decide +kernel
theorem dX1_ruleThatHolds_21 : decode cX1_ruleThatHolds 21 = .ok (.aaload, 1) := by decide +kernel
theorem dX1_ruleThatHolds_22 : decode cX1_ruleThatHolds 22 = .ok (.aload_n 1, 1) := by decide +kernel
theorem dX1_ruleThatHolds_23 : decode cX1_ruleThatHolds 23 = .ok (.invokevirtual 51, 3) := by decide +kernel
theorem dX1_ruleThatHolds_26 : decode cX1_ruleThatHolds 26 = .ok (.ifCond .eq 5, 3) := by decide +kernel
theorem dX1_ruleThatHolds_29 : decode cX1_ruleThatHolds 29 = .ok (.iload_n 2, 1) := by decide +kernel
theorem dX1_ruleThatHolds_30 : decode cX1_ruleThatHolds 30 = .ok (.ireturn, 1) := by decide +kernel
theorem dX1_ruleThatHolds_31 : decode cX1_ruleThatHolds 31 = .ok (.iinc 2 1, 3) := by decide +kernel
theorem dX1_ruleThatHolds_34 : decode cX1_ruleThatHolds 34 = .ok (.goto (-32), 3) := by decide +kernel
theorem dX1_ruleThatHolds_37 : decode cX1_ruleThatHolds 37 = .ok (.bipush (-2), 2) := by decide +kernel
theorem dX1_ruleThatHolds_39 : decode cX1_ruleThatHolds 39 = .ok (.ireturn, 1) := by decide +kernel
theorem dX1_allFields_0 : decode cX1_allFields 0 = .ok (.iconst 1, 1) := by decide +kernel
theorem dX1_allFields_1 : decode cX1_allFields 1 = .ok (.aload_n 0, 1) := by decide +kernel
theorem dX1_allFields_2 : decode cX1_allFields 2 = .ok (.getfield 33, 3) := by decide +kernel
theorem dX1_allFields_5 : decode cX1_allFields 5 = .ok (.ishl, 1) := by decide +kernel
theorem dX1_allFields_6 : decode cX1_allFields 6 = .ok (.iconst 1, 1) := by decide +kernel
theorem dX1_allFields_7 : decode cX1_allFields 7 = .ok (.isub, 1) := by decide +kernel
theorem dX1_allFields_8 : decode cX1_allFields 8 = .ok (.ireturn, 1) := by decide +kernel
theorem dX1_gapsOf_0 : decode cX1_gapsOf 0 = .ok (.iconst 0, 1) := by decide +kernel
theorem dX1_gapsOf_1 : decode cX1_gapsOf 1 = .ok (.istore_n 2, 1) := by decide +kernel
theorem dX1_gapsOf_2 : decode cX1_gapsOf 2 = .ok (.iconst 0, 1) := by decide +kernel
theorem dX1_gapsOf_3 : decode cX1_gapsOf 3 = .ok (.istore_n 3, 1) := by decide +kernel
theorem dX1_gapsOf_4 : decode cX1_gapsOf 4 = .ok (.iload_n 3, 1) := by decide +kernel
theorem dX1_gapsOf_5 : decode cX1_gapsOf 5 = .ok (.aload_n 0, 1) := by decide +kernel
theorem dX1_gapsOf_6 : decode cX1_gapsOf 6 = .ok (.getfield 33, 3) := by decide +kernel
theorem dX1_gapsOf_9 : decode cX1_gapsOf 9 = .ok (.if_icmp .ge 28, 3) := by decide +kernel
theorem dX1_gapsOf_12 : decode cX1_gapsOf 12 = .ok (.iload_n 3, 1) := by decide +kernel
theorem dX1_gapsOf_13 : decode cX1_gapsOf 13 = .ok (.aload_n 1, 1) := by decide +kernel
theorem dX1_gapsOf_14 : decode cX1_gapsOf 14 = .ok (.arraylength, 1) := by decide +kernel
theorem dX1_gapsOf_15 : decode cX1_gapsOf 15 = .ok (.if_icmp .ge 22, 3) := by decide +kernel
theorem dX1_gapsOf_18 : decode cX1_gapsOf 18 = .ok (.aload_n 1, 1) := by decide +kernel
theorem dX1_gapsOf_19 : decode cX1_gapsOf 19 = .ok (.iload_n 3, 1) := by decide +kernel
theorem dX1_gapsOf_20 : decode cX1_gapsOf 20 = .ok (.iaload, 1) := by decide +kernel
theorem dX1_gapsOf_21 : decode cX1_gapsOf 21 = .ok (.iconst (-1), 1) := by decide +kernel
theorem dX1_gapsOf_22 : decode cX1_gapsOf 22 = .ok (.if_icmp .ne 9, 3) := by decide +kernel
theorem dX1_gapsOf_25 : decode cX1_gapsOf 25 = .ok (.iload_n 2, 1) := by decide +kernel
theorem dX1_gapsOf_26 : decode cX1_gapsOf 26 = .ok (.iconst 1, 1) := by decide +kernel
theorem dX1_gapsOf_27 : decode cX1_gapsOf 27 = .ok (.iload_n 3, 1) := by decide +kernel
theorem dX1_gapsOf_28 : decode cX1_gapsOf 28 = .ok (.ishl, 1) := by decide +kernel
theorem dX1_gapsOf_29 : decode cX1_gapsOf 29 = .ok (.ior, 1) := by decide +kernel
theorem dX1_gapsOf_30 : decode cX1_gapsOf 30 = .ok (.istore_n 2, 1) := by decide +kernel
theorem dX1_gapsOf_31 : decode cX1_gapsOf 31 = .ok (.iinc 3 1, 3) := by decide +kernel
theorem dX1_gapsOf_34 : decode cX1_gapsOf 34 = .ok (.goto (-30), 3) := by decide +kernel
theorem dX1_gapsOf_37 : decode cX1_gapsOf 37 = .ok (.iload_n 2, 1) := by decide +kernel
theorem dX1_gapsOf_38 : decode cX1_gapsOf 38 = .ok (.ireturn, 1) := by decide +kernel
theorem dX1_costOf_0 : decode cX1_costOf 0 = .ok (.iconst 0, 1) := by decide +kernel
theorem dX1_costOf_1 : decode cX1_costOf 1 = .ok (.istore_n 2, 1) := by decide +kernel
theorem dX1_costOf_2 : decode cX1_costOf 2 = .ok (.iconst 0, 1) := by decide +kernel
theorem dX1_costOf_3 : decode cX1_costOf 3 = .ok (.istore_n 3, 1) := by decide +kernel
theorem dX1_costOf_4 : decode cX1_costOf 4 = .ok (.iload_n 3, 1) := by decide +kernel
theorem dX1_costOf_5 : decode cX1_costOf 5 = .ok (.aload_n 0, 1) := by decide +kernel
theorem dX1_costOf_6 : decode cX1_costOf 6 = .ok (.getfield 33, 3) := by decide +kernel
theorem dX1_costOf_9 : decode cX1_costOf 9 = .ok (.if_icmp .ge 32, 3) := by decide +kernel
theorem dX1_costOf_12 : decode cX1_costOf 12 = .ok (.iload_n 3, 1) := by decide +kernel
theorem dX1_costOf_13 : decode cX1_costOf 13 = .ok (.bipush 6, 2) := by decide +kernel
theorem dX1_costOf_15 : decode cX1_costOf 15 = .ok (.if_icmp .ge 26, 3) := by decide +kernel
theorem dX1_costOf_18 : decode cX1_costOf 18 = .ok (.iload_n 1, 1) := by decide +kernel
theorem dX1_costOf_19 : decode cX1_costOf 19 = .ok (.iload_n 3, 1) := by decide +kernel
theorem dX1_costOf_20 : decode cX1_costOf 20 = .ok (.ishr, 1) := by decide +kernel
theorem dX1_costOf_21 : decode cX1_costOf 21 = .ok (.iconst 1, 1) := by decide +kernel
theorem dX1_costOf_22 : decode cX1_costOf 22 = .ok (.iand, 1) := by decide +kernel
theorem dX1_costOf_23 : decode cX1_costOf 23 = .ok (.ifCond .eq 12, 3) := by decide +kernel
theorem dX1_costOf_26 : decode cX1_costOf 26 = .ok (.iload_n 2, 1) := by decide +kernel
theorem dX1_costOf_27 : decode cX1_costOf 27 = .ok (.aload_n 0, 1) := by decide +kernel
theorem dX1_costOf_28 : decode cX1_costOf 28 = .ok (.getfield 19, 3) := by decide +kernel
theorem dX1_costOf_31 : decode cX1_costOf 31 = .ok (.iload_n 3, 1) := by decide +kernel
theorem dX1_costOf_32 : decode cX1_costOf 32 = .ok (.iaload, 1) := by decide +kernel
theorem dX1_costOf_33 : decode cX1_costOf 33 = .ok (.iadd, 1) := by decide +kernel
theorem dX1_costOf_34 : decode cX1_costOf 34 = .ok (.istore_n 2, 1) := by decide +kernel
theorem dX1_costOf_35 : decode cX1_costOf 35 = .ok (.iinc 3 1, 3) := by decide +kernel
theorem dX1_costOf_38 : decode cX1_costOf 38 = .ok (.goto (-34), 3) := by decide +kernel
theorem dX1_costOf_41 : decode cX1_costOf 41 = .ok (.iload_n 2, 1) := by decide +kernel
theorem dX1_costOf_42 : decode cX1_costOf 42 = .ok (.ireturn, 1) := by decide +kernel
theorem dX2_init_0 : decode cX2_init 0 = .ok (.aload_n 0, 1) := by decide +kernel
theorem dX2_init_1 : decode cX2_init 1 = .ok (.invokespecial 3, 3) := by decide +kernel
theorem dX2_init_4 : decode cX2_init 4 = .ok (.aload_n 0, 1) := by decide +kernel
theorem dX2_init_5 : decode cX2_init 5 = .ok (.bipush 6, 2) := by decide +kernel
theorem dX2_init_7 : decode cX2_init 7 = .ok (.newarray .int, 2) := by decide +kernel
theorem dX2_init_9 : decode cX2_init 9 = .ok (.putfield 9, 3) := by decide +kernel
theorem dX2_init_12 : decode cX2_init 12 = .ok (.aload_n 0, 1) := by decide +kernel
theorem dX2_init_13 : decode cX2_init 13 = .ok (.aload_n 1, 1) := by decide +kernel
theorem dX2_init_14 : decode cX2_init 14 = .ok (.putfield 15, 3) := by decide +kernel
theorem dX2_init_17 : decode cX2_init 17 = .ok (.return_, 1) := by decide +kernel
theorem dX2_looksAt_0 : decode cX2_looksAt 0 = .ok (.aload_n 0, 1) := by decide +kernel
theorem dX2_looksAt_1 : decode cX2_looksAt 1 = .ok (.getfield 15, 3) := by decide +kernel
theorem dX2_looksAt_4 : decode cX2_looksAt 4 = .ok (.iload_n 1, 1) := by decide +kernel
theorem dX2_looksAt_5 : decode cX2_looksAt 5 = .ok (.iload_n 2, 1) := by decide +kernel
theorem dX2_looksAt_6 : decode cX2_looksAt 6 = .ok (.invokevirtual 19, 3) := by decide +kernel
theorem dX2_looksAt_9 : decode cX2_looksAt 9 = .ok (.ifCond .ne 5, 3) := by decide +kernel
theorem dX2_looksAt_12 : decode cX2_looksAt 12 = .ok (.iconst 0, 1) := by decide +kernel
theorem dX2_looksAt_13 : decode cX2_looksAt 13 = .ok (.ireturn, 1) := by decide +kernel
theorem dX2_looksAt_14 : decode cX2_looksAt 14 = .ok (.aload_n 0, 1) := by decide +kernel
theorem dX2_looksAt_15 : decode cX2_looksAt 15 = .ok (.getfield 15, 3) := by decide +kernel
theorem dX2_looksAt_18 : decode cX2_looksAt 18 = .ok (.iload_n 1, 1) := by decide +kernel
theorem dX2_looksAt_19 : decode cX2_looksAt 19 = .ok (.iload_n 2, 1) := by decide +kernel
theorem dX2_looksAt_20 : decode cX2_looksAt 20 = .ok (.iload_n 3, 1) := by decide +kernel
theorem dX2_looksAt_21 : decode cX2_looksAt 21 = .ok (.aload_n 0, 1) := by decide +kernel
theorem dX2_looksAt_22 : decode cX2_looksAt 22 = .ok (.getfield 9, 3) := by decide +kernel
theorem dX2_looksAt_25 : decode cX2_looksAt 25 = .ok (.invokevirtual 25, 3) := by decide +kernel
theorem dX2_looksAt_28 : decode cX2_looksAt 28 = .ok (.aload_n 0, 1) := by decide +kernel
theorem dX2_looksAt_29 : decode cX2_looksAt 29 = .ok (.getfield 15, 3) := by decide +kernel
theorem dX2_looksAt_32 : decode cX2_looksAt 32 = .ok (.getfield 29, 3) := by decide +kernel
theorem dX2_looksAt_35 : decode cX2_looksAt 35 = .ok (.aload_n 0, 1) := by decide +kernel
theorem dX2_looksAt_36 : decode cX2_looksAt 36 = .ok (.getfield 9, 3) := by decide +kernel
theorem dX2_looksAt_39 : decode cX2_looksAt 39 = .ok (.invokevirtual 33, 3) := by decide +kernel
theorem dX2_looksAt_42 : decode cX2_looksAt 42 = .ok (.bipush (-2), 2) := by decide +kernel
theorem dX2_looksAt_44 : decode cX2_looksAt 44 = .ok (.if_icmp .ne 7, 3) := by decide +kernel
theorem dX2_looksAt_47 : decode cX2_looksAt 47 = .ok (.iconst 1, 1) := by decide +kernel
theorem dX2_looksAt_48 : decode cX2_looksAt 48 = .ok (.goto 4, 3) := by decide +kernel
theorem dX2_looksAt_51 : decode cX2_looksAt 51 = .ok (.iconst 0, 1) := by decide +kernel
theorem dX2_looksAt_52 : decode cX2_looksAt 52 = .ok (.ireturn, 1) := by decide +kernel
theorem dX2_sumOf_0 : decode cX2_sumOf 0 = .ok (.lconst 0, 1) := by decide +kernel
theorem dX2_sumOf_1 : decode cX2_sumOf 1 = .ok (.lstore 5, 2) := by decide +kernel
theorem dX2_sumOf_3 : decode cX2_sumOf 3 = .ok (.iconst 0, 1) := by decide +kernel
theorem dX2_sumOf_4 : decode cX2_sumOf 4 = .ok (.istore 7, 2) := by decide +kernel
theorem dX2_sumOf_6 : decode cX2_sumOf 6 = .ok (.iload 7, 2) := by decide +kernel
theorem dX2_sumOf_8 : decode cX2_sumOf 8 = .ok (.aload_n 0, 1) := by decide +kernel
theorem dX2_sumOf_9 : decode cX2_sumOf 9 = .ok (.getfield 15, 3) := by decide +kernel
theorem dX2_sumOf_12 : decode cX2_sumOf 12 = .ok (.getfield 39, 3) := by decide +kernel
theorem dX2_sumOf_15 : decode cX2_sumOf 15 = .ok (.if_icmp .ge 66, 3) := by decide +kernel
theorem dX2_sumOf_18 : decode cX2_sumOf 18 = .ok (.iload 7, 2) := by decide +kernel
theorem dX2_sumOf_20 : decode cX2_sumOf 20 = .ok (.bipush 60, 2) := by decide +kernel
theorem dX2_sumOf_22 : decode cX2_sumOf 22 = .ok (.if_icmp .ge 59, 3) := by decide +kernel
theorem dX2_sumOf_25 : decode cX2_sumOf 25 = .ok (.aload_n 0, 1) := by decide +kernel
theorem dX2_sumOf_26 : decode cX2_sumOf 26 = .ok (.iload 7, 2) := by decide +kernel
theorem dX2_sumOf_28 : decode cX2_sumOf 28 = .ok (.iload_n 3, 1) := by decide +kernel
theorem dX2_sumOf_29 : decode cX2_sumOf 29 = .ok (.iload 4, 2) := by decide +kernel
theorem dX2_sumOf_31 : decode cX2_sumOf 31 = .ok (.invokevirtual 43, 3) := by decide +kernel
theorem dX2_sumOf_34 : decode cX2_sumOf 34 = .ok (.ifCond .eq 41, 3) := by decide +kernel
theorem dX2_sumOf_37 : decode cX2_sumOf 37 = .ok (.aload_n 1, 1) := by decide +kernel
theorem dX2_sumOf_38 : decode cX2_sumOf 38 = .ok (.aload_n 0, 1) := by decide +kernel
theorem dX2_sumOf_39 : decode cX2_sumOf 39 = .ok (.getfield 9, 3) := by decide +kernel
theorem dX2_sumOf_42 : decode cX2_sumOf 42 = .ok (.invokevirtual 47, 3) := by decide +kernel
theorem dX2_sumOf_45 : decode cX2_sumOf 45 = .ok (.iload_n 2, 1) := by decide +kernel
theorem dX2_sumOf_46 : decode cX2_sumOf 46 = .ok (.if_icmp .ne 29, 3) := by decide +kernel
theorem dX2_sumOf_49 : decode cX2_sumOf 49 = .ok (.lload 5, 2) := by decide +kernel
theorem dX2_sumOf_51 : decode cX2_sumOf 51 = .ok (.aload_n 0, 1) := by decide +kernel
theorem dX2_sumOf_52 : decode cX2_sumOf 52 = .ok (.getfield 15, 3) := by decide +kernel
theorem dX2_sumOf_55 : decode cX2_sumOf 55 = .ok (.getfield 52, 3) := by decide +kernel
theorem dX2_sumOf_58 : decode cX2_sumOf 58 = .ok (.iload 7, 2) := by decide +kernel
theorem dX2_sumOf_60 : decode cX2_sumOf 60 = .ok (.iaload, 1) := by decide +kernel
theorem dX2_sumOf_61 : decode cX2_sumOf 61 = .ok (.i2l, 1) := by decide +kernel
theorem dX2_sumOf_62 : decode cX2_sumOf 62 = .ok (.aload_n 1, 1) := by decide +kernel
theorem dX2_sumOf_63 : decode cX2_sumOf 63 = .ok (.aload_n 0, 1) := by decide +kernel
theorem dX2_sumOf_64 : decode cX2_sumOf 64 = .ok (.getfield 9, 3) := by decide +kernel
theorem dX2_sumOf_67 : decode cX2_sumOf 67 = .ok (.invokevirtual 55, 3) := by decide +kernel
theorem dX2_sumOf_70 : decode cX2_sumOf 70 = .ok (.i2l, 1) := by decide +kernel
theorem dX2_sumOf_71 : decode cX2_sumOf 71 = .ok (.lmul, 1) := by decide +kernel
theorem dX2_sumOf_72 : decode cX2_sumOf 72 = .ok (.ladd, 1) := by decide +kernel
theorem dX2_sumOf_73 : decode cX2_sumOf 73 = .ok (.lstore 5, 2) := by decide +kernel
theorem dX2_sumOf_75 : decode cX2_sumOf 75 = .ok (.iinc 7 1, 3) := by decide +kernel
theorem dX2_sumOf_78 : decode cX2_sumOf 78 = .ok (.goto (-72), 3) := by decide +kernel
theorem dX2_sumOf_81 : decode cX2_sumOf 81 = .ok (.lload 5, 2) := by decide +kernel
theorem dX2_sumOf_83 : decode cX2_sumOf 83 = .ok (.lreturn, 1) := by decide +kernel
theorem dX2_countRows_0 : decode cX2_countRows 0 = .ok (.aload_n 2, 1) := by decide +kernel
theorem dX2_countRows_1 : decode cX2_countRows 1 = .ok (.iconst 0, 1) := by decide +kernel
theorem dX2_countRows_2 : decode cX2_countRows 2 = .ok (.invokestatic 58, 3) := by decide +kernel
theorem dX2_countRows_5 : decode cX2_countRows 5 = .ok (.iconst 0, 1) := by decide +kernel
theorem dX2_countRows_6 : decode cX2_countRows 6 = .ok (.istore_n 3, 1) := by decide +kernel
theorem dX2_countRows_7 : decode cX2_countRows 7 = .ok (.iload_n 3, 1) := by decide +kernel
theorem dX2_countRows_8 : decode cX2_countRows 8 = .ok (.aload_n 0, 1) := by decide +kernel
theorem dX2_countRows_9 : decode cX2_countRows 9 = .ok (.getfield 15, 3) := by decide +kernel
theorem dX2_countRows_12 : decode cX2_countRows 12 = .ok (.getfield 39, 3) := by decide +kernel
theorem dX2_countRows_15 : decode cX2_countRows 15 = .ok (.if_icmp .ge 55, 3) := by decide +kernel
theorem dX2_countRows_18 : decode cX2_countRows 18 = .ok (.aload_n 0, 1) := by decide +kernel
theorem dX2_countRows_19 : decode cX2_countRows 19 = .ok (.iload_n 3, 1) := by decide +kernel
theorem dX2_countRows_20 : decode cX2_countRows 20 = .ok (.aload_n 0, 1) := by decide +kernel
theorem dX2_countRows_21 : decode cX2_countRows 21 = .ok (.getfield 15, 3) := by decide +kernel
theorem dX2_countRows_24 : decode cX2_countRows 24 = .ok (.getfield 64, 3) := by decide +kernel
theorem dX2_countRows_27 : decode cX2_countRows 27 = .ok (.iconst 0, 1) := by decide +kernel
theorem dX2_countRows_28 : decode cX2_countRows 28 = .ok (.invokevirtual 43, 3) := by decide +kernel
theorem dX2_countRows_31 : decode cX2_countRows 31 = .ok (.ifCond .eq 33, 3) := by decide +kernel
theorem dX2_countRows_34 : decode cX2_countRows 34 = .ok (.aload_n 1, 1) := by decide +kernel
theorem dX2_countRows_35 : decode cX2_countRows 35 = .ok (.aload_n 0, 1) := by decide +kernel
theorem dX2_countRows_36 : decode cX2_countRows 36 = .ok (.getfield 9, 3) := by decide +kernel
theorem dX2_countRows_39 : decode cX2_countRows 39 = .ok (.invokevirtual 47, 3) := by decide +kernel
theorem dX2_countRows_42 : decode cX2_countRows 42 = .ok (.istore 4, 2) := by decide +kernel
theorem dX2_countRows_44 : decode cX2_countRows 44 = .ok (.iload 4, 2) := by decide +kernel
theorem dX2_countRows_46 : decode cX2_countRows 46 = .ok (.ifCond .lt 18, 3) := by decide +kernel
theorem dX2_countRows_49 : decode cX2_countRows 49 = .ok (.iload 4, 2) := by decide +kernel
theorem dX2_countRows_51 : decode cX2_countRows 51 = .ok (.aload_n 2, 1) := by decide +kernel
theorem dX2_countRows_52 : decode cX2_countRows 52 = .ok (.arraylength, 1) := by decide +kernel
theorem dX2_countRows_53 : decode cX2_countRows 53 = .ok (.if_icmp .ge 11, 3) := by decide +kernel
theorem dX2_countRows_56 : decode cX2_countRows 56 = .ok (.aload_n 2, 1) := by decide +kernel
theorem dX2_countRows_57 : decode cX2_countRows 57 = .ok (.iload 4, 2) := by decide +kernel
theorem dX2_countRows_59 : decode cX2_countRows 59 = .ok (.dup2, 1) := by decide +kernel
theorem dX2_countRows_60 : decode cX2_countRows 60 = .ok (.iaload, 1) := by decide +kernel
theorem dX2_countRows_61 : decode cX2_countRows 61 = .ok (.iconst 1, 1) := by decide +kernel
theorem dX2_countRows_62 : decode cX2_countRows 62 = .ok (.iadd, 1) := by decide +kernel
theorem dX2_countRows_63 : decode cX2_countRows 63 = .ok (.iastore, 1) := by decide +kernel
theorem dX2_countRows_64 : decode cX2_countRows 64 = .ok (.iinc 3 1, 3) := by decide +kernel
theorem dX2_countRows_67 : decode cX2_countRows 67 = .ok (.goto (-60), 3) := by decide +kernel
theorem dX2_countRows_70 : decode cX2_countRows 70 = .ok (.return_, 1) := by decide +kernel
theorem dX2_rowIn_0 : decode cX2_rowIn 0 = .ok (.iconst 0, 1) := by decide +kernel
theorem dX2_rowIn_1 : decode cX2_rowIn 1 = .ok (.istore 4, 2) := by decide +kernel
theorem dX2_rowIn_3 : decode cX2_rowIn 3 = .ok (.iconst 0, 1) := by decide +kernel
theorem dX2_rowIn_4 : decode cX2_rowIn 4 = .ok (.istore 5, 2) := by decide +kernel
theorem dX2_rowIn_6 : decode cX2_rowIn 6 = .ok (.iload 5, 2) := by decide +kernel
theorem dX2_rowIn_8 : decode cX2_rowIn 8 = .ok (.aload_n 0, 1) := by decide +kernel
theorem dX2_rowIn_9 : decode cX2_rowIn 9 = .ok (.getfield 15, 3) := by decide +kernel
theorem dX2_rowIn_12 : decode cX2_rowIn 12 = .ok (.getfield 39, 3) := by decide +kernel
theorem dX2_rowIn_15 : decode cX2_rowIn 15 = .ok (.if_icmp .ge 50, 3) := by decide +kernel
theorem dX2_rowIn_18 : decode cX2_rowIn 18 = .ok (.aload_n 0, 1) := by decide +kernel
theorem dX2_rowIn_19 : decode cX2_rowIn 19 = .ok (.iload 5, 2) := by decide +kernel
theorem dX2_rowIn_21 : decode cX2_rowIn 21 = .ok (.aload_n 0, 1) := by decide +kernel
theorem dX2_rowIn_22 : decode cX2_rowIn 22 = .ok (.getfield 15, 3) := by decide +kernel
theorem dX2_rowIn_25 : decode cX2_rowIn 25 = .ok (.getfield 64, 3) := by decide +kernel
theorem dX2_rowIn_28 : decode cX2_rowIn 28 = .ok (.iconst 0, 1) := by decide +kernel
theorem dX2_rowIn_29 : decode cX2_rowIn 29 = .ok (.invokevirtual 43, 3) := by decide +kernel
theorem dX2_rowIn_32 : decode cX2_rowIn 32 = .ok (.ifCond .eq 27, 3) := by decide +kernel
theorem dX2_rowIn_35 : decode cX2_rowIn 35 = .ok (.aload_n 1, 1) := by decide +kernel
theorem dX2_rowIn_36 : decode cX2_rowIn 36 = .ok (.aload_n 0, 1) := by decide +kernel
theorem dX2_rowIn_37 : decode cX2_rowIn 37 = .ok (.getfield 9, 3) := by decide +kernel
theorem dX2_rowIn_40 : decode cX2_rowIn 40 = .ok (.invokevirtual 47, 3) := by decide +kernel
theorem dX2_rowIn_43 : decode cX2_rowIn 43 = .ok (.iload_n 2, 1) := by decide +kernel
theorem dX2_rowIn_44 : decode cX2_rowIn 44 = .ok (.if_icmp .ne 15, 3) := by decide +kernel
theorem dX2_rowIn_47 : decode cX2_rowIn 47 = .ok (.iload 4, 2) := by decide +kernel
theorem dX2_rowIn_49 : decode cX2_rowIn 49 = .ok (.iload_n 3, 1) := by decide +kernel
theorem dX2_rowIn_50 : decode cX2_rowIn 50 = .ok (.if_icmp .ne 6, 3) := by decide +kernel
theorem dX2_rowIn_53 : decode cX2_rowIn 53 = .ok (.iload 5, 2) := by decide +kernel
theorem dX2_rowIn_55 : decode cX2_rowIn 55 = .ok (.ireturn, 1) := by decide +kernel
theorem dX2_rowIn_56 : decode cX2_rowIn 56 = .ok (.iinc 4 1, 3) := by decide +kernel
theorem dX2_rowIn_59 : decode cX2_rowIn 59 = .ok (.iinc 5 1, 3) := by decide +kernel
theorem dX2_rowIn_62 : decode cX2_rowIn 62 = .ok (.goto (-56), 3) := by decide +kernel
theorem dX2_rowIn_65 : decode cX2_rowIn 65 = .ok (.iconst (-1), 1) := by decide +kernel
theorem dX2_rowIn_66 : decode cX2_rowIn 66 = .ok (.ireturn, 1) := by decide +kernel
theorem dX3_init_0 : decode cX3_init 0 = .ok (.aload_n 0, 1) := by decide +kernel
theorem dX3_init_1 : decode cX3_init 1 = .ok (.invokespecial 3, 3) := by decide +kernel
theorem dX3_init_4 : decode cX3_init 4 = .ok (.aload_n 0, 1) := by decide +kernel
theorem dX3_init_5 : decode cX3_init 5 = .ok (.bipush 100, 2) := by decide +kernel
theorem dX3_init_7 : decode cX3_init 7 = .ok (.newarray .int, 2) := by decide +kernel
theorem dX3_init_9 : decode cX3_init 9 = .ok (.putfield 9, 3) := by decide +kernel
theorem dX3_init_12 : decode cX3_init 12 = .ok (.aload_n 0, 1) := by decide +kernel
theorem dX3_init_13 : decode cX3_init 13 = .ok (.bipush 100, 2) := by decide +kernel
theorem dX3_init_15 : decode cX3_init 15 = .ok (.newarray .int, 2) := by decide +kernel
theorem dX3_init_17 : decode cX3_init 17 = .ok (.putfield 15, 3) := by decide +kernel
theorem dX3_init_20 : decode cX3_init 20 = .ok (.aload_n 0, 1) := by decide +kernel
theorem dX3_init_21 : decode cX3_init 21 = .ok (.bipush 100, 2) := by decide +kernel
theorem dX3_init_23 : decode cX3_init 23 = .ok (.newarray .int, 2) := by decide +kernel
theorem dX3_init_25 : decode cX3_init 25 = .ok (.putfield 18, 3) := by decide +kernel
theorem dX3_init_28 : decode cX3_init 28 = .ok (.aload_n 0, 1) := by decide +kernel
theorem dX3_init_29 : decode cX3_init 29 = .ok (.bipush 20, 2) := by decide +kernel
theorem dX3_init_31 : decode cX3_init 31 = .ok (.newarray .int, 2) := by decide +kernel
theorem dX3_init_33 : decode cX3_init 33 = .ok (.putfield 21, 3) := by decide +kernel
theorem dX3_init_36 : decode cX3_init 36 = .ok (.aload_n 0, 1) := by decide +kernel
theorem dX3_init_37 : decode cX3_init 37 = .ok (.bipush 20, 2) := by decide +kernel
theorem dX3_init_39 : decode cX3_init 39 = .ok (.newarray .int, 2) := by decide +kernel
theorem dX3_init_41 : decode cX3_init 41 = .ok (.putfield 24, 3) := by decide +kernel
theorem dX3_init_44 : decode cX3_init 44 = .ok (.aload_n 0, 1) := by decide +kernel
theorem dX3_init_45 : decode cX3_init 45 = .ok (.iconst 1, 1) := by decide +kernel
theorem dX3_init_46 : decode cX3_init 46 = .ok (.putfield 27, 3) := by decide +kernel
theorem dX3_init_49 : decode cX3_init 49 = .ok (.aload_n 0, 1) := by decide +kernel
theorem dX3_init_50 : decode cX3_init 50 = .ok (.iconst 1, 1) := by decide +kernel
theorem dX3_init_51 : decode cX3_init 51 = .ok (.putfield 31, 3) := by decide +kernel
theorem dX3_init_54 : decode cX3_init 54 = .ok (.aload_n 0, 1) := by decide +kernel
theorem dX3_init_55 : decode cX3_init 55 = .ok (.aload_n 1, 1) := by decide +kernel
theorem dX3_init_56 : decode cX3_init 56 = .ok (.putfield 34, 3) := by decide +kernel
theorem dX3_init_59 : decode cX3_init 59 = .ok (.return_, 1) := by decide +kernel
theorem dX3_open_0 : decode cX3_open 0 = .ok (.aload_n 0, 1) := by decide +kernel
theorem dX3_open_1 : decode cX3_open 1 = .ok (.aload_n 1, 1) := by decide +kernel
theorem dX3_open_2 : decode cX3_open 2 = .ok (.getfield 38, 3) := by decide +kernel
theorem dX3_open_5 : decode cX3_open 5 = .ok (.putfield 27, 3) := by decide +kernel
theorem dX3_open_8 : decode cX3_open 8 = .ok (.aload_n 0, 1) := by decide +kernel
theorem dX3_open_9 : decode cX3_open 9 = .ok (.aload_n 1, 1) := by decide +kernel
theorem dX3_open_10 : decode cX3_open 10 = .ok (.getfield 41, 3) := by decide +kernel
theorem dX3_open_13 : decode cX3_open 13 = .ok (.putfield 31, 3) := by decide +kernel
theorem dX3_open_16 : decode cX3_open 16 = .ok (.aload_n 0, 1) := by decide +kernel
theorem dX3_open_17 : decode cX3_open 17 = .ok (.getfield 34, 3) := by decide +kernel
theorem dX3_open_20 : decode cX3_open 20 = .ok (.aload_n 1, 1) := by decide +kernel
theorem dX3_open_21 : decode cX3_open 21 = .ok (.aload_n 0, 1) := by decide +kernel
theorem dX3_open_22 : decode cX3_open 22 = .ok (.getfield 9, 3) := by decide +kernel
theorem dX3_open_25 : decode cX3_open 25 = .ok (.invokevirtual 42, 3) := by decide +kernel
theorem dX3_open_28 : decode cX3_open 28 = .ok (.return_, 1) := by decide +kernel
theorem dX3_differingCells_0 : decode cX3_differingCells 0 = .ok (.aload_n 0, 1) := by decide +kernel
theorem dX3_differingCells_1 : decode cX3_differingCells 1 = .ok (.getfield 34, 3) := by decide +kernel
theorem dX3_differingCells_4 : decode cX3_differingCells 4 = .ok (.aload_n 1, 1) := by decide +kernel
theorem dX3_differingCells_5 : decode cX3_differingCells 5 = .ok (.aload_n 0, 1) := by decide +kernel
theorem dX3_differingCells_6 : decode cX3_differingCells 6 = .ok (.getfield 9, 3) := by decide +kernel
theorem dX3_differingCells_9 : decode cX3_differingCells 9 = .ok (.invokevirtual 42, 3) := by decide +kernel
theorem dX3_differingCells_12 : decode cX3_differingCells 12 = .ok (.aload_n 0, 1) := by decide +kernel
theorem dX3_differingCells_13 : decode cX3_differingCells 13 = .ok (.getfield 34, 3) := by decide +kernel
theorem dX3_differingCells_16 : decode cX3_differingCells 16 = .ok (.aload_n 2, 1) := by decide +kernel
theorem dX3_differingCells_17 : decode cX3_differingCells 17 = .ok (.aload_n 0, 1) := by decide +kernel
theorem dX3_differingCells_18 : decode cX3_differingCells 18 = .ok (.getfield 15, 3) := by decide +kernel
theorem dX3_differingCells_21 : decode cX3_differingCells 21 = .ok (.invokevirtual 42, 3) := by decide +kernel
theorem dX3_differingCells_24 : decode cX3_differingCells 24 = .ok (.iconst 0, 1) := by decide +kernel
theorem dX3_differingCells_25 : decode cX3_differingCells 25 = .ok (.istore 4, 2) := by decide +kernel
theorem dX3_differingCells_27 : decode cX3_differingCells 27 = .ok (.iconst 0, 1) := by decide +kernel
theorem dX3_differingCells_28 : decode cX3_differingCells 28 = .ok (.istore 5, 2) := by decide +kernel
theorem dX3_differingCells_30 : decode cX3_differingCells 30 = .ok (.iload 5, 2) := by decide +kernel
theorem dX3_differingCells_32 : decode cX3_differingCells 32 = .ok (.bipush 100, 2) := by decide +kernel
theorem dX3_differingCells_34 : decode cX3_differingCells 34 = .ok (.if_icmp .ge 40, 3) := by decide +kernel
theorem dX3_differingCells_37 : decode cX3_differingCells 37 = .ok (.aload_n 0, 1) := by decide +kernel
theorem dX3_differingCells_38 : decode cX3_differingCells 38 = .ok (.getfield 9, 3) := by decide +kernel
theorem dX3_differingCells_41 : decode cX3_differingCells 41 = .ok (.iload 5, 2) := by decide +kernel
theorem dX3_differingCells_43 : decode cX3_differingCells 43 = .ok (.iaload, 1) := by decide +kernel
theorem dX3_differingCells_44 : decode cX3_differingCells 44 = .ok (.aload_n 0, 1) := by decide +kernel
theorem dX3_differingCells_45 : decode cX3_differingCells 45 = .ok (.getfield 15, 3) := by decide +kernel
theorem dX3_differingCells_48 : decode cX3_differingCells 48 = .ok (.iload 5, 2) := by decide +kernel
theorem dX3_differingCells_50 : decode cX3_differingCells 50 = .ok (.iaload, 1) := by decide +kernel
theorem dX3_differingCells_51 : decode cX3_differingCells 51 = .ok (.isub, 1) := by decide +kernel
theorem dX3_differingCells_52 : decode cX3_differingCells 52 = .ok (.invokestatic 48, 3) := by decide +kernel
theorem dX3_differingCells_55 : decode cX3_differingCells 55 = .ok (.iconst 1, 1) := by decide +kernel
theorem dX3_differingCells_56 : decode cX3_differingCells 56 = .ok (.iload_n 3, 1) := by decide +kernel
theorem dX3_differingCells_57 : decode cX3_differingCells 57 = .ok (.iconst 1, 1) := by decide +kernel
theorem dX3_differingCells_58 : decode cX3_differingCells 58 = .ok (.isub, 1) := by decide +kernel
theorem dX3_differingCells_59 : decode cX3_differingCells 59 = .ok (.invokestatic 54, 3) := by decide +kernel
theorem dX3_differingCells_62 : decode cX3_differingCells 62 = .ok (.ifCond .eq 6, 3) := by decide +kernel
theorem dX3_differingCells_65 : decode cX3_differingCells 65 = .ok (.iinc 4 1, 3) := by decide +kernel
theorem dX3_differingCells_68 : decode cX3_differingCells 68 = .ok (.iinc 5 1, 3) := by decide +kernel
theorem dX3_differingCells_71 : decode cX3_differingCells 71 = .ok (.goto (-41), 3) := by decide +kernel
theorem dX3_differingCells_74 : decode cX3_differingCells 74 = .ok (.iload 4, 2) := by decide +kernel
theorem dX3_differingCells_76 : decode cX3_differingCells 76 = .ok (.ireturn, 1) := by decide +kernel
theorem dX3_shyCells_0 : decode cX3_shyCells 0 = .ok (.lconst 0, 1) := by decide +kernel
theorem dX3_shyCells_1 : decode cX3_shyCells 1 = .ok (.lstore_n 2, 1) := by decide +kernel
theorem dX3_shyCells_2 : decode cX3_shyCells 2 = .ok (.iconst 0, 1) := by decide +kernel
theorem dX3_shyCells_3 : decode cX3_shyCells 3 = .ok (.istore 4, 2) := by decide +kernel
theorem dX3_shyCells_5 : decode cX3_shyCells 5 = .ok (.iload 4, 2) := by decide +kernel
theorem dX3_shyCells_7 : decode cX3_shyCells 7 = .ok (.aload_n 0, 1) := by decide +kernel
theorem dX3_shyCells_8 : decode cX3_shyCells 8 = .ok (.getfield 27, 3) := by decide +kernel
theorem dX3_shyCells_11 : decode cX3_shyCells 11 = .ok (.aload_n 0, 1) := by decide +kernel
theorem dX3_shyCells_12 : decode cX3_shyCells 12 = .ok (.getfield 31, 3) := by decide +kernel
theorem dX3_shyCells_15 : decode cX3_shyCells 15 = .ok (.imul, 1) := by decide +kernel
theorem dX3_shyCells_16 : decode cX3_shyCells 16 = .ok (.if_icmp .ge 40, 3) := by decide +kernel
theorem dX3_shyCells_19 : decode cX3_shyCells 19 = .ok (.iload 4, 2) := by decide +kernel
theorem dX3_shyCells_21 : decode cX3_shyCells 21 = .ok (.bipush 60, 2) := by decide +kernel
theorem dX3_shyCells_23 : decode cX3_shyCells 23 = .ok (.if_icmp .ge 33, 3) := by decide +kernel
theorem dX3_shyCells_26 : decode cX3_shyCells 26 = .ok (.aload_n 0, 1) := by decide +kernel
theorem dX3_shyCells_27 : decode cX3_shyCells 27 = .ok (.getfield 9, 3) := by decide +kernel
theorem dX3_shyCells_30 : decode cX3_shyCells 30 = .ok (.iload 4, 2) := by decide +kernel
theorem dX3_shyCells_32 : decode cX3_shyCells 32 = .ok (.iaload, 1) := by decide +kernel
theorem dX3_shyCells_33 : decode cX3_shyCells 33 = .ok (.iconst 1, 1) := by decide +kernel
theorem dX3_shyCells_34 : decode cX3_shyCells 34 = .ok (.iload_n 1, 1) := by decide +kernel
theorem dX3_shyCells_35 : decode cX3_shyCells 35 = .ok (.iconst 1, 1) := by decide +kernel
theorem dX3_shyCells_36 : decode cX3_shyCells 36 = .ok (.isub, 1) := by decide +kernel
theorem dX3_shyCells_37 : decode cX3_shyCells 37 = .ok (.invokestatic 54, 3) := by decide +kernel
theorem dX3_shyCells_40 : decode cX3_shyCells 40 = .ok (.ifCond .eq 10, 3) := by decide +kernel
theorem dX3_shyCells_43 : decode cX3_shyCells 43 = .ok (.lload_n 2, 1) := by decide +kernel
theorem dX3_shyCells_44 : decode cX3_shyCells 44 = .ok (.lconst 1, 1) := by decide +kernel
theorem dX3_shyCells_45 : decode cX3_shyCells 45 = .ok (.iload 4, 2) := by decide +kernel
theorem dX3_shyCells_47 : decode cX3_shyCells 47 = .ok (.lshl, 1) := by decide +kernel
theorem dX3_shyCells_48 : decode cX3_shyCells 48 = .ok (.lor, 1) := by decide +kernel
theorem dX3_shyCells_49 : decode cX3_shyCells 49 = .ok (.lstore_n 2, 1) := by decide +kernel
theorem dX3_shyCells_50 : decode cX3_shyCells 50 = .ok (.iinc 4 1, 3) := by decide +kernel
theorem dX3_shyCells_53 : decode cX3_shyCells 53 = .ok (.goto (-48), 3) := by decide +kernel
theorem dX3_shyCells_56 : decode cX3_shyCells 56 = .ok (.lload_n 2, 1) := by decide +kernel
theorem dX3_shyCells_57 : decode cX3_shyCells 57 = .ok (.lreturn, 1) := by decide +kernel
theorem dX3_isWide_0 : decode cX3_isWide 0 = .ok (.lload_n 3, 1) := by decide +kernel
theorem dX3_isWide_1 : decode cX3_isWide 1 = .ok (.lload_n 1, 1) := by decide +kernel
theorem dX3_isWide_2 : decode cX3_isWide 2 = .ok (.ldc2_w 58, 3) := by decide +kernel
theorem dX3_isWide_5 : decode cX3_isWide 5 = .ok (.lxor, 1) := by decide +kernel
theorem dX3_isWide_6 : decode cX3_isWide 6 = .ok (.land, 1) := by decide +kernel
theorem dX3_isWide_7 : decode cX3_isWide 7 = .ok (.lconst 0, 1) := by decide +kernel
theorem dX3_isWide_8 : decode cX3_isWide 8 = .ok (.lcmp, 1) := by decide +kernel
theorem dX3_isWide_9 : decode cX3_isWide 9 = .ok (.ifCond .eq 5, 3) := by decide +kernel
theorem dX3_isWide_12 : decode cX3_isWide 12 = .ok (.iconst 0, 1) := by decide +kernel
theorem dX3_isWide_13 : decode cX3_isWide 13 = .ok (.ireturn, 1) := by decide +kernel
theorem dX3_isWide_14 : decode cX3_isWide 14 = .ok (.iconst 0, 1) := by decide +kernel
theorem dX3_isWide_15 : decode cX3_isWide 15 = .ok (.istore 6, 2) := by decide +kernel
theorem dX3_isWide_17 : decode cX3_isWide 17 = .ok (.iload 6, 2) := by decide +kernel
theorem dX3_isWide_19 : decode cX3_isWide 19 = .ok (.bipush 60, 2) := by decide +kernel
theorem dX3_isWide_21 : decode cX3_isWide 21 = .ok (.if_icmp .ge 42, 3) := by decide +kernel
theorem dX3_isWide_24 : decode cX3_isWide 24 = .ok (.iload 6, 2) := by decide +kernel
theorem dX3_isWide_26 : decode cX3_isWide 26 = .ok (.lload_n 3, 1) := by decide +kernel
theorem dX3_isWide_27 : decode cX3_isWide 27 = .ok (.invokestatic 60, 3) := by decide +kernel
theorem dX3_isWide_30 : decode cX3_isWide 30 = .ok (.ifCond .eq 27, 3) := by decide +kernel
theorem dX3_isWide_33 : decode cX3_isWide 33 = .ok (.aload_n 0, 1) := by decide +kernel
theorem dX3_isWide_34 : decode cX3_isWide 34 = .ok (.iload 6, 2) := by decide +kernel
theorem dX3_isWide_36 : decode cX3_isWide 36 = .ok (.lload_n 1, 1) := by decide +kernel
theorem dX3_isWide_37 : decode cX3_isWide 37 = .ok (.iconst 1, 1) := by decide +kernel
theorem dX3_isWide_38 : decode cX3_isWide 38 = .ok (.invokevirtual 64, 3) := by decide +kernel
theorem dX3_isWide_41 : decode cX3_isWide 41 = .ok (.aload_n 0, 1) := by decide +kernel
theorem dX3_isWide_42 : decode cX3_isWide 42 = .ok (.iload 6, 2) := by decide +kernel
theorem dX3_isWide_44 : decode cX3_isWide 44 = .ok (.lload_n 1, 1) := by decide +kernel
theorem dX3_isWide_45 : decode cX3_isWide 45 = .ok (.iconst 0, 1) := by decide +kernel
theorem dX3_isWide_46 : decode cX3_isWide 46 = .ok (.invokevirtual 64, 3) := by decide +kernel
theorem dX3_isWide_49 : decode cX3_isWide 49 = .ok (.isub, 1) := by decide +kernel
theorem dX3_isWide_50 : decode cX3_isWide 50 = .ok (.iload 5, 2) := by decide +kernel
theorem dX3_isWide_52 : decode cX3_isWide 52 = .ok (.if_icmp .ge 5, 3) := by decide +kernel
theorem dX3_isWide_55 : decode cX3_isWide 55 = .ok (.iconst 0, 1) := by decide +kernel
theorem dX3_isWide_56 : decode cX3_isWide 56 = .ok (.ireturn, 1) := by decide +kernel
theorem dX3_isWide_57 : decode cX3_isWide 57 = .ok (.iinc 6 1, 3) := by decide +kernel
theorem dX3_isWide_60 : decode cX3_isWide 60 = .ok (.goto (-43), 3) := by decide +kernel
theorem dX3_isWide_63 : decode cX3_isWide 63 = .ok (.iconst 1, 1) := by decide +kernel
theorem dX3_isWide_64 : decode cX3_isWide 64 = .ok (.ireturn, 1) := by decide +kernel
theorem dX3_leastSet_0 : decode cX3_leastSet 0 = .ok (.aload_n 0, 1) := by decide +kernel
theorem dX3_leastSet_1 : decode cX3_leastSet 1 = .ok (.getfield 27, 3) := by decide +kernel
theorem dX3_leastSet_4 : decode cX3_leastSet 4 = .ok (.aload_n 0, 1) := by decide +kernel
theorem dX3_leastSet_5 : decode cX3_leastSet 5 = .ok (.getfield 31, 3) := by decide +kernel
theorem dX3_leastSet_8 : decode cX3_leastSet 8 = .ok (.imul, 1) := by decide +kernel
theorem dX3_leastSet_9 : decode cX3_leastSet 9 = .ok (.bipush 12, 2) := by decide +kernel
theorem dX3_leastSet_11 : decode cX3_leastSet 11 = .ok (.invokestatic 68, 3) := by decide +kernel
theorem dX3_leastSet_14 : decode cX3_leastSet 14 = .ok (.istore 4, 2) := by decide +kernel
theorem dX3_leastSet_16 : decode cX3_leastSet 16 = .ok (.iconst 1, 1) := by decide +kernel
theorem dX3_leastSet_17 : decode cX3_leastSet 17 = .ok (.iload 4, 2) := by decide +kernel
theorem dX3_leastSet_19 : decode cX3_leastSet 19 = .ok (.ishl, 1) := by decide +kernel
theorem dX3_leastSet_20 : decode cX3_leastSet 20 = .ok (.iconst 1, 1) := by decide +kernel
theorem dX3_leastSet_21 : decode cX3_leastSet 21 = .ok (.isub, 1) := by decide +kernel
theorem dX3_leastSet_22 : decode cX3_leastSet 22 = .ok (.istore 5, 2) := by decide +kernel
theorem dX3_leastSet_24 : decode cX3_leastSet 24 = .ok (.aload_n 0, 1) := by decide +kernel
theorem dX3_leastSet_25 : decode cX3_leastSet 25 = .ok (.iload 5, 2) := by decide +kernel
theorem dX3_leastSet_27 : decode cX3_leastSet 27 = .ok (.i2l, 1) := by decide +kernel
theorem dX3_leastSet_28 : decode cX3_leastSet 28 = .ok (.lload_n 1, 1) := by decide +kernel
theorem dX3_leastSet_29 : decode cX3_leastSet 29 = .ok (.iload_n 3, 1) := by decide +kernel
theorem dX3_leastSet_30 : decode cX3_leastSet 30 = .ok (.invokevirtual 72, 3) := by decide +kernel
theorem dX3_leastSet_33 : decode cX3_leastSet 33 = .ok (.ifCond .ne 6, 3) := by decide +kernel
theorem dX3_leastSet_36 : decode cX3_leastSet 36 = .ok (.bipush (-2), 2) := by decide +kernel
theorem dX3_leastSet_38 : decode cX3_leastSet 38 = .ok (.ireturn, 1) := by decide +kernel
theorem dX3_leastSet_39 : decode cX3_leastSet 39 = .ok (.iconst 0, 1) := by decide +kernel
theorem dX3_leastSet_40 : decode cX3_leastSet 40 = .ok (.istore 6, 2) := by decide +kernel
theorem dX3_leastSet_42 : decode cX3_leastSet 42 = .ok (.iload 6, 2) := by decide +kernel
theorem dX3_leastSet_44 : decode cX3_leastSet 44 = .ok (.sipush 4096, 3) := by decide +kernel
theorem dX3_leastSet_47 : decode cX3_leastSet 47 = .ok (.if_icmp .ge 57, 3) := by decide +kernel
theorem dX3_leastSet_50 : decode cX3_leastSet 50 = .ok (.iload 6, 2) := by decide +kernel
theorem dX3_leastSet_52 : decode cX3_leastSet 52 = .ok (.iconst 1, 1) := by decide +kernel
theorem dX3_leastSet_53 : decode cX3_leastSet 53 = .ok (.iload 4, 2) := by decide +kernel
theorem dX3_leastSet_55 : decode cX3_leastSet 55 = .ok (.ishl, 1) := by decide +kernel
theorem dX3_leastSet_56 : decode cX3_leastSet 56 = .ok (.if_icmp .ge 48, 3) := by decide +kernel
theorem dX3_leastSet_59 : decode cX3_leastSet 59 = .ok (.lload_n 1, 1) := by decide +kernel
theorem dX3_leastSet_60 : decode cX3_leastSet 60 = .ok (.iload 6, 2) := by decide +kernel
theorem dX3_leastSet_62 : decode cX3_leastSet 62 = .ok (.iconst (-1), 1) := by decide +kernel
theorem dX3_leastSet_63 : decode cX3_leastSet 63 = .ok (.ixor, 1) := by decide +kernel
theorem dX3_leastSet_64 : decode cX3_leastSet 64 = .ok (.i2l, 1) := by decide +kernel
theorem dX3_leastSet_65 : decode cX3_leastSet 65 = .ok (.land, 1) := by decide +kernel
theorem dX3_leastSet_66 : decode cX3_leastSet 66 = .ok (.lconst 0, 1) := by decide +kernel
theorem dX3_leastSet_67 : decode cX3_leastSet 67 = .ok (.lcmp, 1) := by decide +kernel
theorem dX3_leastSet_68 : decode cX3_leastSet 68 = .ok (.ifCond .ne 30, 3) := by decide +kernel
theorem dX3_leastSet_71 : decode cX3_leastSet 71 = .ok (.aload_n 0, 1) := by decide +kernel
theorem dX3_leastSet_72 : decode cX3_leastSet 72 = .ok (.iload 6, 2) := by decide +kernel
theorem dX3_leastSet_74 : decode cX3_leastSet 74 = .ok (.iload 5, 2) := by decide +kernel
theorem dX3_leastSet_76 : decode cX3_leastSet 76 = .ok (.invokevirtual 76, 3) := by decide +kernel
theorem dX3_leastSet_79 : decode cX3_leastSet 79 = .ok (.ifCond .eq 19, 3) := by decide +kernel
theorem dX3_leastSet_82 : decode cX3_leastSet 82 = .ok (.aload_n 0, 1) := by decide +kernel
theorem dX3_leastSet_83 : decode cX3_leastSet 83 = .ok (.iload 6, 2) := by decide +kernel
theorem dX3_leastSet_85 : decode cX3_leastSet 85 = .ok (.i2l, 1) := by decide +kernel
theorem dX3_leastSet_86 : decode cX3_leastSet 86 = .ok (.lload_n 1, 1) := by decide +kernel
theorem dX3_leastSet_87 : decode cX3_leastSet 87 = .ok (.iload_n 3, 1) := by decide +kernel
theorem dX3_leastSet_88 : decode cX3_leastSet 88 = .ok (.invokevirtual 72, 3) := by decide +kernel
theorem dX3_leastSet_91 : decode cX3_leastSet 91 = .ok (.ifCond .eq 7, 3) := by decide +kernel
theorem dX3_leastSet_94 : decode cX3_leastSet 94 = .ok (.iload 6, 2) := by decide +kernel
theorem dX3_leastSet_96 : decode cX3_leastSet 96 = .ok (.istore 5, 2) := by decide +kernel
theorem dX3_leastSet_98 : decode cX3_leastSet 98 = .ok (.iinc 6 1, 3) := by decide +kernel
theorem dX3_leastSet_101 : decode cX3_leastSet 101 = .ok (.goto (-59), 3) := by decide +kernel
theorem dX3_leastSet_104 : decode cX3_leastSet 104 = .ok (.iload 5, 2) := by decide +kernel
theorem dX3_leastSet_106 : decode cX3_leastSet 106 = .ok (.ireturn, 1) := by decide +kernel
theorem dX3_isLess_0 : decode cX3_isLess 0 = .ok (.aload_n 0, 1) := by decide +kernel
theorem dX3_isLess_1 : decode cX3_isLess 1 = .ok (.iload_n 1, 1) := by decide +kernel
theorem dX3_isLess_2 : decode cX3_isLess 2 = .ok (.invokevirtual 80, 3) := by decide +kernel
theorem dX3_isLess_5 : decode cX3_isLess 5 = .ok (.aload_n 0, 1) := by decide +kernel
theorem dX3_isLess_6 : decode cX3_isLess 6 = .ok (.iload_n 2, 1) := by decide +kernel
theorem dX3_isLess_7 : decode cX3_isLess 7 = .ok (.invokevirtual 80, 3) := by decide +kernel
theorem dX3_isLess_10 : decode cX3_isLess 10 = .ok (.isub, 1) := by decide +kernel
theorem dX3_isLess_11 : decode cX3_isLess 11 = .ok (.istore_n 3, 1) := by decide +kernel
theorem dX3_isLess_12 : decode cX3_isLess 12 = .ok (.iload_n 3, 1) := by decide +kernel
theorem dX3_isLess_13 : decode cX3_isLess 13 = .ok (.ifCond .eq 13, 3) := by decide +kernel
theorem dX3_isLess_16 : decode cX3_isLess 16 = .ok (.iload_n 3, 1) := by decide +kernel
theorem dX3_isLess_17 : decode cX3_isLess 17 = .ok (.ifCond .ge 7, 3) := by decide +kernel
theorem dX3_isLess_20 : decode cX3_isLess 20 = .ok (.iconst 1, 1) := by decide +kernel
theorem dX3_isLess_21 : decode cX3_isLess 21 = .ok (.goto 4, 3) := by decide +kernel
theorem dX3_isLess_24 : decode cX3_isLess 24 = .ok (.iconst 0, 1) := by decide +kernel
theorem dX3_isLess_25 : decode cX3_isLess 25 = .ok (.ireturn, 1) := by decide +kernel
theorem dX3_isLess_26 : decode cX3_isLess 26 = .ok (.iload_n 1, 1) := by decide +kernel
theorem dX3_isLess_27 : decode cX3_isLess 27 = .ok (.invokestatic 83, 3) := by decide +kernel
theorem dX3_isLess_30 : decode cX3_isLess 30 = .ok (.iload_n 2, 1) := by decide +kernel
theorem dX3_isLess_31 : decode cX3_isLess 31 = .ok (.invokestatic 83, 3) := by decide +kernel
theorem dX3_isLess_34 : decode cX3_isLess 34 = .ok (.isub, 1) := by decide +kernel
theorem dX3_isLess_35 : decode cX3_isLess 35 = .ok (.istore 4, 2) := by decide +kernel
theorem dX3_isLess_37 : decode cX3_isLess 37 = .ok (.iload 4, 2) := by decide +kernel
theorem dX3_isLess_39 : decode cX3_isLess 39 = .ok (.ifCond .lt 13, 3) := by decide +kernel
theorem dX3_isLess_42 : decode cX3_isLess 42 = .ok (.iload 4, 2) := by decide +kernel
theorem dX3_isLess_44 : decode cX3_isLess 44 = .ok (.ifCond .ne 12, 3) := by decide +kernel
theorem dX3_isLess_47 : decode cX3_isLess 47 = .ok (.iload_n 1, 1) := by decide +kernel
theorem dX3_isLess_48 : decode cX3_isLess 48 = .ok (.iload_n 2, 1) := by decide +kernel
theorem dX3_isLess_49 : decode cX3_isLess 49 = .ok (.if_icmp .ge 7, 3) := by decide +kernel
theorem dX3_isLess_52 : decode cX3_isLess 52 = .ok (.iconst 1, 1) := by decide +kernel
theorem dX3_isLess_53 : decode cX3_isLess 53 = .ok (.goto 4, 3) := by decide +kernel
theorem dX3_isLess_56 : decode cX3_isLess 56 = .ok (.iconst 0, 1) := by decide +kernel
theorem dX3_isLess_57 : decode cX3_isLess 57 = .ok (.ireturn, 1) := by decide +kernel
theorem dX3_rowsIn_0 : decode cX3_rowsIn 0 = .ok (.iconst 0, 1) := by decide +kernel
theorem dX3_rowsIn_1 : decode cX3_rowsIn 1 = .ok (.istore_n 2, 1) := by decide +kernel
theorem dX3_rowsIn_2 : decode cX3_rowsIn 2 = .ok (.iconst 0, 1) := by decide +kernel
theorem dX3_rowsIn_3 : decode cX3_rowsIn 3 = .ok (.istore_n 3, 1) := by decide +kernel
theorem dX3_rowsIn_4 : decode cX3_rowsIn 4 = .ok (.iload_n 3, 1) := by decide +kernel
theorem dX3_rowsIn_5 : decode cX3_rowsIn 5 = .ok (.bipush 12, 2) := by decide +kernel
theorem dX3_rowsIn_7 : decode cX3_rowsIn 7 = .ok (.if_icmp .ge 27, 3) := by decide +kernel
theorem dX3_rowsIn_10 : decode cX3_rowsIn 10 = .ok (.iload_n 3, 1) := by decide +kernel
theorem dX3_rowsIn_11 : decode cX3_rowsIn 11 = .ok (.iload_n 1, 1) := by decide +kernel
theorem dX3_rowsIn_12 : decode cX3_rowsIn 12 = .ok (.i2l, 1) := by decide +kernel
theorem dX3_rowsIn_13 : decode cX3_rowsIn 13 = .ok (.invokestatic 60, 3) := by decide +kernel
theorem dX3_rowsIn_16 : decode cX3_rowsIn 16 = .ok (.ifCond .eq 12, 3) := by decide +kernel
theorem dX3_rowsIn_19 : decode cX3_rowsIn 19 = .ok (.iload_n 2, 1) := by decide +kernel
theorem dX3_rowsIn_20 : decode cX3_rowsIn 20 = .ok (.aload_n 0, 1) := by decide +kernel
theorem dX3_rowsIn_21 : decode cX3_rowsIn 21 = .ok (.getfield 9, 3) := by decide +kernel
theorem dX3_rowsIn_24 : decode cX3_rowsIn 24 = .ok (.iload_n 3, 1) := by decide +kernel
theorem dX3_rowsIn_25 : decode cX3_rowsIn 25 = .ok (.iaload, 1) := by decide +kernel
theorem dX3_rowsIn_26 : decode cX3_rowsIn 26 = .ok (.iadd, 1) := by decide +kernel
theorem dX3_rowsIn_27 : decode cX3_rowsIn 27 = .ok (.istore_n 2, 1) := by decide +kernel
theorem dX3_rowsIn_28 : decode cX3_rowsIn 28 = .ok (.iinc 3 1, 3) := by decide +kernel
theorem dX3_rowsIn_31 : decode cX3_rowsIn 31 = .ok (.goto (-27), 3) := by decide +kernel
theorem dX3_rowsIn_34 : decode cX3_rowsIn 34 = .ok (.iload_n 2, 1) := by decide +kernel
theorem dX3_rowsIn_35 : decode cX3_rowsIn 35 = .ok (.ireturn, 1) := by decide +kernel
theorem dX3_edgeOf_0 : decode cX3_edgeOf 0 = .ok (.iload_n 1, 1) := by decide +kernel
theorem dX3_edgeOf_1 : decode cX3_edgeOf 1 = .ok (.ifCond .lt 17, 3) := by decide +kernel
theorem dX3_edgeOf_4 : decode cX3_edgeOf 4 = .ok (.iload_n 1, 1) := by decide +kernel
theorem dX3_edgeOf_5 : decode cX3_edgeOf 5 = .ok (.bipush 100, 2) := by decide +kernel
theorem dX3_edgeOf_7 : decode cX3_edgeOf 7 = .ok (.if_icmp .ge 11, 3) := by decide +kernel
theorem dX3_edgeOf_10 : decode cX3_edgeOf 10 = .ok (.aload_n 0, 1) := by decide +kernel
theorem dX3_edgeOf_11 : decode cX3_edgeOf 11 = .ok (.getfield 31, 3) := by decide +kernel
theorem dX3_edgeOf_14 : decode cX3_edgeOf 14 = .ok (.iconst 1, 1) := by decide +kernel
theorem dX3_edgeOf_15 : decode cX3_edgeOf 15 = .ok (.if_icmp .ge 5, 3) := by decide +kernel
theorem dX3_edgeOf_18 : decode cX3_edgeOf 18 = .ok (.iconst (-1), 1) := by decide +kernel
theorem dX3_edgeOf_19 : decode cX3_edgeOf 19 = .ok (.ireturn, 1) := by decide +kernel
theorem dX3_edgeOf_20 : decode cX3_edgeOf 20 = .ok (.iload_n 1, 1) := by decide +kernel
theorem dX3_edgeOf_21 : decode cX3_edgeOf 21 = .ok (.aload_n 0, 1) := by decide +kernel
theorem dX3_edgeOf_22 : decode cX3_edgeOf 22 = .ok (.getfield 31, 3) := by decide +kernel
theorem dX3_edgeOf_25 : decode cX3_edgeOf 25 = .ok (.idiv, 1) := by decide +kernel
theorem dX3_edgeOf_26 : decode cX3_edgeOf 26 = .ok (.istore 5, 2) := by decide +kernel
theorem dX3_edgeOf_28 : decode cX3_edgeOf 28 = .ok (.aload_n 0, 1) := by decide +kernel
theorem dX3_edgeOf_29 : decode cX3_edgeOf 29 = .ok (.getfield 27, 3) := by decide +kernel
theorem dX3_edgeOf_32 : decode cX3_edgeOf 32 = .ok (.iload_n 1, 1) := by decide +kernel
theorem dX3_edgeOf_33 : decode cX3_edgeOf 33 = .ok (.aload_n 0, 1) := by decide +kernel
theorem dX3_edgeOf_34 : decode cX3_edgeOf 34 = .ok (.getfield 31, 3) := by decide +kernel
theorem dX3_edgeOf_37 : decode cX3_edgeOf 37 = .ok (.irem, 1) := by decide +kernel
theorem dX3_edgeOf_38 : decode cX3_edgeOf 38 = .ok (.iadd, 1) := by decide +kernel
theorem dX3_edgeOf_39 : decode cX3_edgeOf 39 = .ok (.istore 6, 2) := by decide +kernel
theorem dX3_edgeOf_41 : decode cX3_edgeOf 41 = .ok (.aload_n 0, 1) := by decide +kernel
theorem dX3_edgeOf_42 : decode cX3_edgeOf 42 = .ok (.getfield 9, 3) := by decide +kernel
theorem dX3_edgeOf_45 : decode cX3_edgeOf 45 = .ok (.iconst 0, 1) := by decide +kernel
theorem dX3_edgeOf_46 : decode cX3_edgeOf 46 = .ok (.aload_n 0, 1) := by decide +kernel
theorem dX3_edgeOf_47 : decode cX3_edgeOf 47 = .ok (.getfield 18, 3) := by decide +kernel
theorem dX3_edgeOf_50 : decode cX3_edgeOf 50 = .ok (.iconst 0, 1) := by decide +kernel
theorem dX3_edgeOf_51 : decode cX3_edgeOf 51 = .ok (.bipush 100, 2) := by decide +kernel
theorem dX3_edgeOf_53 : decode cX3_edgeOf 53 = .ok (.invokestatic 88, 3) := by decide +kernel
theorem dX3_edgeOf_56 : decode cX3_edgeOf 56 = .ok (.iconst 0, 1) := by decide +kernel
theorem dX3_edgeOf_57 : decode cX3_edgeOf 57 = .ok (.istore 7, 2) := by decide +kernel
theorem dX3_edgeOf_59 : decode cX3_edgeOf 59 = .ok (.iload 7, 2) := by decide +kernel
theorem dX3_edgeOf_61 : decode cX3_edgeOf 61 = .ok (.ldc 94, 2) := by decide +kernel
theorem dX3_edgeOf_63 : decode cX3_edgeOf 63 = .ok (.if_icmp .ge 50, 3) := by decide +kernel
theorem dX3_edgeOf_66 : decode cX3_edgeOf 66 = .ok (.iload 4, 2) := by decide +kernel
theorem dX3_edgeOf_68 : decode cX3_edgeOf 68 = .ok (.ifCond .ne 12, 3) := by decide +kernel
theorem dX3_edgeOf_71 : decode cX3_edgeOf 71 = .ok (.aload_n 0, 1) := by decide +kernel
theorem dX3_edgeOf_72 : decode cX3_edgeOf 72 = .ok (.getfield 18, 3) := by decide +kernel
theorem dX3_edgeOf_75 : decode cX3_edgeOf 75 = .ok (.iload_n 1, 1) := by decide +kernel
theorem dX3_edgeOf_76 : decode cX3_edgeOf 76 = .ok (.iaload, 1) := by decide +kernel
theorem dX3_edgeOf_77 : decode cX3_edgeOf 77 = .ok (.ifCond .le 36, 3) := by decide +kernel
theorem dX3_edgeOf_80 : decode cX3_edgeOf 80 = .ok (.aload_n 0, 1) := by decide +kernel
theorem dX3_edgeOf_81 : decode cX3_edgeOf 81 = .ok (.iload 5, 2) := by decide +kernel
theorem dX3_edgeOf_83 : decode cX3_edgeOf 83 = .ok (.iload 6, 2) := by decide +kernel
theorem dX3_edgeOf_85 : decode cX3_edgeOf 85 = .ok (.lload_n 2, 1) := by decide +kernel
theorem dX3_edgeOf_86 : decode cX3_edgeOf 86 = .ok (.iload 4, 2) := by decide +kernel
theorem dX3_edgeOf_88 : decode cX3_edgeOf 88 = .ok (.invokevirtual 95, 3) := by decide +kernel
theorem dX3_edgeOf_91 : decode cX3_edgeOf 91 = .ok (.ifCond .ne 6, 3) := by decide +kernel
theorem dX3_edgeOf_94 : decode cX3_edgeOf 94 = .ok (.goto 19, 3) := by decide +kernel
theorem dX3_edgeOf_97 : decode cX3_edgeOf 97 = .ok (.aload_n 0, 1) := by decide +kernel
theorem dX3_edgeOf_98 : decode cX3_edgeOf 98 = .ok (.iload 5, 2) := by decide +kernel
theorem dX3_edgeOf_100 : decode cX3_edgeOf 100 = .ok (.iload 6, 2) := by decide +kernel
theorem dX3_edgeOf_102 : decode cX3_edgeOf 102 = .ok (.iload 4, 2) := by decide +kernel
theorem dX3_edgeOf_104 : decode cX3_edgeOf 104 = .ok (.invokevirtual 99, 3) := by decide +kernel
theorem dX3_edgeOf_107 : decode cX3_edgeOf 107 = .ok (.iinc 7 1, 3) := by decide +kernel
theorem dX3_edgeOf_110 : decode cX3_edgeOf 110 = .ok (.goto (-51), 3) := by decide +kernel
theorem dX3_edgeOf_113 : decode cX3_edgeOf 113 = .ok (.aload_n 0, 1) := by decide +kernel
theorem dX3_edgeOf_114 : decode cX3_edgeOf 114 = .ok (.getfield 18, 3) := by decide +kernel
theorem dX3_edgeOf_117 : decode cX3_edgeOf 117 = .ok (.iload_n 1, 1) := by decide +kernel
theorem dX3_edgeOf_118 : decode cX3_edgeOf 118 = .ok (.iaload, 1) := by decide +kernel
theorem dX3_edgeOf_119 : decode cX3_edgeOf 119 = .ok (.ireturn, 1) := by decide +kernel
theorem dX3_findCircle_0 : decode cX3_findCircle 0 = .ok (.aload_n 0, 1) := by decide +kernel
theorem dX3_findCircle_1 : decode cX3_findCircle 1 = .ok (.iload_n 1, 1) := by decide +kernel
theorem dX3_findCircle_2 : decode cX3_findCircle 2 = .ok (.invokevirtual 103, 3) := by decide +kernel
theorem dX3_findCircle_5 : decode cX3_findCircle 5 = .ok (.ifCond .eq 11, 3) := by decide +kernel
theorem dX3_findCircle_8 : decode cX3_findCircle 8 = .ok (.aload_n 0, 1) := by decide +kernel
theorem dX3_findCircle_9 : decode cX3_findCircle 9 = .ok (.iload_n 2, 1) := by decide +kernel
theorem dX3_findCircle_10 : decode cX3_findCircle 10 = .ok (.invokevirtual 103, 3) := by decide +kernel
theorem dX3_findCircle_13 : decode cX3_findCircle 13 = .ok (.ifCond .ne 5, 3) := by decide +kernel
theorem dX3_findCircle_16 : decode cX3_findCircle 16 = .ok (.iconst 0, 1) := by decide +kernel
theorem dX3_findCircle_17 : decode cX3_findCircle 17 = .ok (.ireturn, 1) := by decide +kernel
theorem dX3_findCircle_18 : decode cX3_findCircle 18 = .ok (.aload_n 0, 1) := by decide +kernel
theorem dX3_findCircle_19 : decode cX3_findCircle 19 = .ok (.iload_n 1, 1) := by decide +kernel
theorem dX3_findCircle_20 : decode cX3_findCircle 20 = .ok (.iload_n 2, 1) := by decide +kernel
theorem dX3_findCircle_21 : decode cX3_findCircle 21 = .ok (.invokevirtual 107, 3) := by decide +kernel
theorem dX3_findCircle_24 : decode cX3_findCircle 24 = .ok (.istore 6, 2) := by decide +kernel
theorem dX3_findCircle_26 : decode cX3_findCircle 26 = .ok (.aload_n 0, 1) := by decide +kernel
theorem dX3_findCircle_27 : decode cX3_findCircle 27 = .ok (.getfield 21, 3) := by decide +kernel
theorem dX3_findCircle_30 : decode cX3_findCircle 30 = .ok (.iconst (-1), 1) := by decide +kernel
theorem dX3_findCircle_31 : decode cX3_findCircle 31 = .ok (.invokestatic 110, 3) := by decide +kernel
theorem dX3_findCircle_34 : decode cX3_findCircle 34 = .ok (.aload_n 0, 1) := by decide +kernel
theorem dX3_findCircle_35 : decode cX3_findCircle 35 = .ok (.getfield 21, 3) := by decide +kernel
theorem dX3_findCircle_38 : decode cX3_findCircle 38 = .ok (.iload_n 1, 1) := by decide +kernel
theorem dX3_findCircle_39 : decode cX3_findCircle 39 = .ok (.iload_n 1, 1) := by decide +kernel
theorem dX3_findCircle_40 : decode cX3_findCircle 40 = .ok (.iastore, 1) := by decide +kernel
theorem dX3_findCircle_41 : decode cX3_findCircle 41 = .ok (.aload_n 0, 1) := by decide +kernel
theorem dX3_findCircle_42 : decode cX3_findCircle 42 = .ok (.getfield 24, 3) := by decide +kernel
theorem dX3_findCircle_45 : decode cX3_findCircle 45 = .ok (.iconst 0, 1) := by decide +kernel
theorem dX3_findCircle_46 : decode cX3_findCircle 46 = .ok (.iload_n 1, 1) := by decide +kernel
theorem dX3_findCircle_47 : decode cX3_findCircle 47 = .ok (.iastore, 1) := by decide +kernel
theorem dX3_findCircle_48 : decode cX3_findCircle 48 = .ok (.iconst 1, 1) := by decide +kernel
theorem dX3_findCircle_49 : decode cX3_findCircle 49 = .ok (.istore 7, 2) := by decide +kernel
theorem dX3_findCircle_51 : decode cX3_findCircle 51 = .ok (.iconst 0, 1) := by decide +kernel
theorem dX3_findCircle_52 : decode cX3_findCircle 52 = .ok (.istore 8, 2) := by decide +kernel
theorem dX3_findCircle_54 : decode cX3_findCircle 54 = .ok (.iload 8, 2) := by decide +kernel
theorem dX3_findCircle_56 : decode cX3_findCircle 56 = .ok (.iload 7, 2) := by decide +kernel
theorem dX3_findCircle_58 : decode cX3_findCircle 58 = .ok (.if_icmp .ge 186, 3) := by decide +kernel
theorem dX3_findCircle_61 : decode cX3_findCircle 61 = .ok (.iload 8, 2) := by decide +kernel
theorem dX3_findCircle_63 : decode cX3_findCircle 63 = .ok (.bipush 20, 2) := by decide +kernel
theorem dX3_findCircle_65 : decode cX3_findCircle 65 = .ok (.if_icmp .ge 179, 3) := by decide +kernel
theorem dX3_findCircle_68 : decode cX3_findCircle 68 = .ok (.aload_n 0, 1) := by decide +kernel
theorem dX3_findCircle_69 : decode cX3_findCircle 69 = .ok (.getfield 21, 3) := by decide +kernel
theorem dX3_findCircle_72 : decode cX3_findCircle 72 = .ok (.iload_n 2, 1) := by decide +kernel
theorem dX3_findCircle_73 : decode cX3_findCircle 73 = .ok (.iaload, 1) := by decide +kernel
theorem dX3_findCircle_74 : decode cX3_findCircle 74 = .ok (.iconst (-1), 1) := by decide +kernel
theorem dX3_findCircle_75 : decode cX3_findCircle 75 = .ok (.if_icmp .ne 169, 3) := by decide +kernel
theorem dX3_findCircle_78 : decode cX3_findCircle 78 = .ok (.aload_n 0, 1) := by decide +kernel
theorem dX3_findCircle_79 : decode cX3_findCircle 79 = .ok (.getfield 24, 3) := by decide +kernel
theorem dX3_findCircle_82 : decode cX3_findCircle 82 = .ok (.iload 8, 2) := by decide +kernel
theorem dX3_findCircle_84 : decode cX3_findCircle 84 = .ok (.iaload, 1) := by decide +kernel
theorem dX3_findCircle_85 : decode cX3_findCircle 85 = .ok (.istore 9, 2) := by decide +kernel
theorem dX3_findCircle_87 : decode cX3_findCircle 87 = .ok (.iload 9, 2) := by decide +kernel
theorem dX3_findCircle_89 : decode cX3_findCircle 89 = .ok (.aload_n 0, 1) := by decide +kernel
theorem dX3_findCircle_90 : decode cX3_findCircle 90 = .ok (.getfield 27, 3) := by decide +kernel
theorem dX3_findCircle_93 : decode cX3_findCircle 93 = .ok (.if_icmp .ge 15, 3) := by decide +kernel
theorem dX3_findCircle_96 : decode cX3_findCircle 96 = .ok (.aload_n 0, 1) := by decide +kernel
theorem dX3_findCircle_97 : decode cX3_findCircle 97 = .ok (.getfield 27, 3) := by decide +kernel
theorem dX3_findCircle_100 : decode cX3_findCircle 100 = .ok (.aload_n 0, 1) := by decide +kernel
theorem dX3_findCircle_101 : decode cX3_findCircle 101 = .ok (.getfield 31, 3) := by decide +kernel
theorem dX3_findCircle_104 : decode cX3_findCircle 104 = .ok (.iadd, 1) := by decide +kernel
theorem dX3_findCircle_105 : decode cX3_findCircle 105 = .ok (.goto 7, 3) := by decide +kernel
theorem dX3_findCircle_108 : decode cX3_findCircle 108 = .ok (.aload_n 0, 1) := by decide +kernel
theorem dX3_findCircle_109 : decode cX3_findCircle 109 = .ok (.getfield 27, 3) := by decide +kernel
theorem dX3_findCircle_112 : decode cX3_findCircle 112 = .ok (.istore 10, 2) := by decide +kernel
theorem dX3_findCircle_114 : decode cX3_findCircle 114 = .ok (.iload 9, 2) := by decide +kernel
theorem dX3_findCircle_116 : decode cX3_findCircle 116 = .ok (.aload_n 0, 1) := by decide +kernel
theorem dX3_findCircle_117 : decode cX3_findCircle 117 = .ok (.getfield 27, 3) := by decide +kernel
theorem dX3_findCircle_120 : decode cX3_findCircle 120 = .ok (.if_icmp .ge 10, 3) := by decide +kernel
theorem dX3_findCircle_123 : decode cX3_findCircle 123 = .ok (.aload_n 0, 1) := by decide +kernel
theorem dX3_findCircle_124 : decode cX3_findCircle 124 = .ok (.getfield 27, 3) := by decide +kernel
theorem dX3_findCircle_127 : decode cX3_findCircle 127 = .ok (.goto 4, 3) := by decide +kernel
theorem dX3_findCircle_130 : decode cX3_findCircle 130 = .ok (.iconst 0, 1) := by decide +kernel
theorem dX3_findCircle_131 : decode cX3_findCircle 131 = .ok (.istore 11, 2) := by decide +kernel
theorem dX3_findCircle_133 : decode cX3_findCircle 133 = .ok (.iload 11, 2) := by decide +kernel
theorem dX3_findCircle_135 : decode cX3_findCircle 135 = .ok (.iload 10, 2) := by decide +kernel
theorem dX3_findCircle_137 : decode cX3_findCircle 137 = .ok (.if_icmp .ge 101, 3) := by decide +kernel
theorem dX3_findCircle_140 : decode cX3_findCircle 140 = .ok (.iload 11, 2) := by decide +kernel
theorem dX3_findCircle_142 : decode cX3_findCircle 142 = .ok (.bipush 20, 2) := by decide +kernel
theorem dX3_findCircle_144 : decode cX3_findCircle 144 = .ok (.if_icmp .ge 94, 3) := by decide +kernel
theorem dX3_findCircle_147 : decode cX3_findCircle 147 = .ok (.aload_n 0, 1) := by decide +kernel
theorem dX3_findCircle_148 : decode cX3_findCircle 148 = .ok (.iload 9, 2) := by decide +kernel
theorem dX3_findCircle_150 : decode cX3_findCircle 150 = .ok (.iload 11, 2) := by decide +kernel
theorem dX3_findCircle_152 : decode cX3_findCircle 152 = .ok (.invokevirtual 107, 3) := by decide +kernel
theorem dX3_findCircle_155 : decode cX3_findCircle 155 = .ok (.istore 12, 2) := by decide +kernel
theorem dX3_findCircle_157 : decode cX3_findCircle 157 = .ok (.aload_n 0, 1) := by decide +kernel
theorem dX3_findCircle_158 : decode cX3_findCircle 158 = .ok (.getfield 21, 3) := by decide +kernel
theorem dX3_findCircle_161 : decode cX3_findCircle 161 = .ok (.iload 11, 2) := by decide +kernel
theorem dX3_findCircle_163 : decode cX3_findCircle 163 = .ok (.iaload, 1) := by decide +kernel
theorem dX3_findCircle_164 : decode cX3_findCircle 164 = .ok (.iconst (-1), 1) := by decide +kernel
theorem dX3_findCircle_165 : decode cX3_findCircle 165 = .ok (.if_icmp .ne 67, 3) := by decide +kernel
theorem dX3_findCircle_168 : decode cX3_findCircle 168 = .ok (.iload 12, 2) := by decide +kernel
theorem dX3_findCircle_170 : decode cX3_findCircle 170 = .ok (.iload 6, 2) := by decide +kernel
theorem dX3_findCircle_172 : decode cX3_findCircle 172 = .ok (.if_icmp .eq 60, 3) := by decide +kernel
theorem dX3_findCircle_175 : decode cX3_findCircle 175 = .ok (.iload 12, 2) := by decide +kernel
theorem dX3_findCircle_177 : decode cX3_findCircle 177 = .ok (.lload_n 3, 1) := by decide +kernel
theorem dX3_findCircle_178 : decode cX3_findCircle 178 = .ok (.invokestatic 60, 3) := by decide +kernel
theorem dX3_findCircle_181 : decode cX3_findCircle 181 = .ok (.ifCond .eq 51, 3) := by decide +kernel
theorem dX3_findCircle_184 : decode cX3_findCircle 184 = .ok (.aload_n 0, 1) := by decide +kernel
theorem dX3_findCircle_185 : decode cX3_findCircle 185 = .ok (.iload 9, 2) := by decide +kernel
theorem dX3_findCircle_187 : decode cX3_findCircle 187 = .ok (.iload 5, 2) := by decide +kernel
theorem dX3_findCircle_189 : decode cX3_findCircle 189 = .ok (.invokevirtual 116, 3) := by decide +kernel
theorem dX3_findCircle_192 : decode cX3_findCircle 192 = .ok (.ifCond .eq 12, 3) := by decide +kernel
theorem dX3_findCircle_195 : decode cX3_findCircle 195 = .ok (.aload_n 0, 1) := by decide +kernel
theorem dX3_findCircle_196 : decode cX3_findCircle 196 = .ok (.iload 12, 2) := by decide +kernel
theorem dX3_findCircle_198 : decode cX3_findCircle 198 = .ok (.invokevirtual 120, 3) := by decide +kernel
theorem dX3_findCircle_201 : decode cX3_findCircle 201 = .ok (.ifCond .le 31, 3) := by decide +kernel
theorem dX3_findCircle_204 : decode cX3_findCircle 204 = .ok (.iload 7, 2) := by decide +kernel
theorem dX3_findCircle_206 : decode cX3_findCircle 206 = .ok (.bipush 20, 2) := by decide +kernel
theorem dX3_findCircle_208 : decode cX3_findCircle 208 = .ok (.if_icmp .ge 24, 3) := by decide +kernel
theorem dX3_findCircle_211 : decode cX3_findCircle 211 = .ok (.aload_n 0, 1) := by decide +kernel
theorem dX3_findCircle_212 : decode cX3_findCircle 212 = .ok (.getfield 21, 3) := by decide +kernel
theorem dX3_findCircle_215 : decode cX3_findCircle 215 = .ok (.iload 11, 2) := by decide +kernel
theorem dX3_findCircle_217 : decode cX3_findCircle 217 = .ok (.iload 9, 2) := by decide +kernel
theorem dX3_findCircle_219 : decode cX3_findCircle 219 = .ok (.iastore, 1) := by decide +kernel
theorem dX3_findCircle_220 : decode cX3_findCircle 220 = .ok (.aload_n 0, 1) := by decide +kernel
theorem dX3_findCircle_221 : decode cX3_findCircle 221 = .ok (.getfield 24, 3) := by decide +kernel
theorem dX3_findCircle_224 : decode cX3_findCircle 224 = .ok (.iload 7, 2) := by decide +kernel
theorem dX3_findCircle_226 : decode cX3_findCircle 226 = .ok (.iload 11, 2) := by decide +kernel
theorem dX3_findCircle_228 : decode cX3_findCircle 228 = .ok (.iastore, 1) := by decide +kernel
theorem dX3_findCircle_229 : decode cX3_findCircle 229 = .ok (.iinc 7 1, 3) := by decide +kernel
theorem dX3_findCircle_232 : decode cX3_findCircle 232 = .ok (.iinc 11 1, 3) := by decide +kernel
theorem dX3_findCircle_235 : decode cX3_findCircle 235 = .ok (.goto (-102), 3) := by decide +kernel
theorem dX3_findCircle_238 : decode cX3_findCircle 238 = .ok (.iinc 8 1, 3) := by decide +kernel
theorem dX3_findCircle_241 : decode cX3_findCircle 241 = .ok (.goto (-187), 3) := by decide +kernel
theorem dX3_findCircle_244 : decode cX3_findCircle 244 = .ok (.aload_n 0, 1) := by decide +kernel
theorem dX3_findCircle_245 : decode cX3_findCircle 245 = .ok (.getfield 21, 3) := by decide +kernel
theorem dX3_findCircle_248 : decode cX3_findCircle 248 = .ok (.iload_n 2, 1) := by decide +kernel
theorem dX3_findCircle_249 : decode cX3_findCircle 249 = .ok (.iaload, 1) := by decide +kernel
theorem dX3_findCircle_250 : decode cX3_findCircle 250 = .ok (.iconst (-1), 1) := by decide +kernel
theorem dX3_findCircle_251 : decode cX3_findCircle 251 = .ok (.if_icmp .eq 7, 3) := by decide +kernel
theorem dX3_findCircle_254 : decode cX3_findCircle 254 = .ok (.iconst 1, 1) := by decide +kernel
theorem dX3_findCircle_255 : decode cX3_findCircle 255 = .ok (.goto 4, 3) := by decide +kernel
theorem dX3_findCircle_258 : decode cX3_findCircle 258 = .ok (.iconst 0, 1) := by decide +kernel
theorem dX3_findCircle_259 : decode cX3_findCircle 259 = .ok (.ireturn, 1) := by decide +kernel
theorem dX3_isNode_0 : decode cX3_isNode 0 = .ok (.iload_n 1, 1) := by decide +kernel
theorem dX3_isNode_1 : decode cX3_isNode 1 = .ok (.ifCond .lt 26, 3) := by decide +kernel
theorem dX3_isNode_4 : decode cX3_isNode 4 = .ok (.iload_n 1, 1) := by decide +kernel
theorem dX3_isNode_5 : decode cX3_isNode 5 = .ok (.aload_n 0, 1) := by decide +kernel
theorem dX3_isNode_6 : decode cX3_isNode 6 = .ok (.getfield 27, 3) := by decide +kernel
theorem dX3_isNode_9 : decode cX3_isNode 9 = .ok (.aload_n 0, 1) := by decide +kernel
theorem dX3_isNode_10 : decode cX3_isNode 10 = .ok (.getfield 31, 3) := by decide +kernel
theorem dX3_isNode_13 : decode cX3_isNode 13 = .ok (.iadd, 1) := by decide +kernel
theorem dX3_isNode_14 : decode cX3_isNode 14 = .ok (.if_icmp .ge 13, 3) := by decide +kernel
theorem dX3_isNode_17 : decode cX3_isNode 17 = .ok (.iload_n 1, 1) := by decide +kernel
theorem dX3_isNode_18 : decode cX3_isNode 18 = .ok (.bipush 20, 2) := by decide +kernel
theorem dX3_isNode_20 : decode cX3_isNode 20 = .ok (.if_icmp .ge 7, 3) := by decide +kernel
theorem dX3_isNode_23 : decode cX3_isNode 23 = .ok (.iconst 1, 1) := by decide +kernel
theorem dX3_isNode_24 : decode cX3_isNode 24 = .ok (.goto 4, 3) := by decide +kernel
theorem dX3_isNode_27 : decode cX3_isNode 27 = .ok (.iconst 0, 1) := by decide +kernel
theorem dX3_isNode_28 : decode cX3_isNode 28 = .ok (.ireturn, 1) := by decide +kernel
theorem dX3_cellBetween_0 : decode cX3_cellBetween 0 = .ok (.iload_n 1, 1) := by decide +kernel
theorem dX3_cellBetween_1 : decode cX3_cellBetween 1 = .ok (.aload_n 0, 1) := by decide +kernel
theorem dX3_cellBetween_2 : decode cX3_cellBetween 2 = .ok (.getfield 27, 3) := by decide +kernel
theorem dX3_cellBetween_5 : decode cX3_cellBetween 5 = .ok (.if_icmp .ge 19, 3) := by decide +kernel
theorem dX3_cellBetween_8 : decode cX3_cellBetween 8 = .ok (.iload_n 1, 1) := by decide +kernel
theorem dX3_cellBetween_9 : decode cX3_cellBetween 9 = .ok (.aload_n 0, 1) := by decide +kernel
theorem dX3_cellBetween_10 : decode cX3_cellBetween 10 = .ok (.getfield 31, 3) := by decide +kernel
theorem dX3_cellBetween_13 : decode cX3_cellBetween 13 = .ok (.imul, 1) := by decide +kernel
theorem dX3_cellBetween_14 : decode cX3_cellBetween 14 = .ok (.iload_n 2, 1) := by decide +kernel
theorem dX3_cellBetween_15 : decode cX3_cellBetween 15 = .ok (.iadd, 1) := by decide +kernel
theorem dX3_cellBetween_16 : decode cX3_cellBetween 16 = .ok (.aload_n 0, 1) := by decide +kernel
theorem dX3_cellBetween_17 : decode cX3_cellBetween 17 = .ok (.getfield 27, 3) := by decide +kernel
theorem dX3_cellBetween_20 : decode cX3_cellBetween 20 = .ok (.isub, 1) := by decide +kernel
theorem dX3_cellBetween_21 : decode cX3_cellBetween 21 = .ok (.goto 16, 3) := by decide +kernel
theorem dX3_cellBetween_24 : decode cX3_cellBetween 24 = .ok (.iload_n 2, 1) := by decide +kernel
theorem dX3_cellBetween_25 : decode cX3_cellBetween 25 = .ok (.aload_n 0, 1) := by decide +kernel
theorem dX3_cellBetween_26 : decode cX3_cellBetween 26 = .ok (.getfield 31, 3) := by decide +kernel
theorem dX3_cellBetween_29 : decode cX3_cellBetween 29 = .ok (.imul, 1) := by decide +kernel
theorem dX3_cellBetween_30 : decode cX3_cellBetween 30 = .ok (.iload_n 1, 1) := by decide +kernel
theorem dX3_cellBetween_31 : decode cX3_cellBetween 31 = .ok (.iadd, 1) := by decide +kernel
theorem dX3_cellBetween_32 : decode cX3_cellBetween 32 = .ok (.aload_n 0, 1) := by decide +kernel
theorem dX3_cellBetween_33 : decode cX3_cellBetween 33 = .ok (.getfield 27, 3) := by decide +kernel
theorem dX3_cellBetween_36 : decode cX3_cellBetween 36 = .ok (.isub, 1) := by decide +kernel
theorem dX3_cellBetween_37 : decode cX3_cellBetween 37 = .ok (.ireturn, 1) := by decide +kernel
theorem dX3_loses_0 : decode cX3_loses 0 = .ok (.iload_n 1, 1) := by decide +kernel
theorem dX3_loses_1 : decode cX3_loses 1 = .ok (.aload_n 0, 1) := by decide +kernel
theorem dX3_loses_2 : decode cX3_loses 2 = .ok (.getfield 27, 3) := by decide +kernel
theorem dX3_loses_5 : decode cX3_loses 5 = .ok (.if_icmp .ge 7, 3) := by decide +kernel
theorem dX3_loses_8 : decode cX3_loses 8 = .ok (.iconst 1, 1) := by decide +kernel
theorem dX3_loses_9 : decode cX3_loses 9 = .ok (.goto 4, 3) := by decide +kernel
theorem dX3_loses_12 : decode cX3_loses 12 = .ok (.iconst 0, 1) := by decide +kernel
theorem dX3_loses_13 : decode cX3_loses 13 = .ok (.iload_n 2, 1) := by decide +kernel
theorem dX3_loses_14 : decode cX3_loses 14 = .ok (.if_icmp .ne 7, 3) := by decide +kernel
theorem dX3_loses_17 : decode cX3_loses 17 = .ok (.iconst 1, 1) := by decide +kernel
theorem dX3_loses_18 : decode cX3_loses 18 = .ok (.goto 4, 3) := by decide +kernel
theorem dX3_loses_21 : decode cX3_loses 21 = .ok (.iconst 0, 1) := by decide +kernel
theorem dX3_loses_22 : decode cX3_loses 22 = .ok (.ireturn, 1) := by decide +kernel
theorem dX3_countAt_0 : decode cX3_countAt 0 = .ok (.iload_n 1, 1) := by decide +kernel
theorem dX3_countAt_1 : decode cX3_countAt 1 = .ok (.ifCond .lt 18, 3) := by decide +kernel
theorem dX3_countAt_4 : decode cX3_countAt 4 = .ok (.iload_n 1, 1) := by decide +kernel
theorem dX3_countAt_5 : decode cX3_countAt 5 = .ok (.bipush 100, 2) := by decide +kernel
theorem dX3_countAt_7 : decode cX3_countAt 7 = .ok (.if_icmp .ge 12, 3) := by decide +kernel
theorem dX3_countAt_10 : decode cX3_countAt 10 = .ok (.aload_n 0, 1) := by decide +kernel
theorem dX3_countAt_11 : decode cX3_countAt 11 = .ok (.getfield 18, 3) := by decide +kernel
theorem dX3_countAt_14 : decode cX3_countAt 14 = .ok (.iload_n 1, 1) := by decide +kernel
theorem dX3_countAt_15 : decode cX3_countAt 15 = .ok (.iaload, 1) := by decide +kernel
theorem dX3_countAt_16 : decode cX3_countAt 16 = .ok (.goto 4, 3) := by decide +kernel
theorem dX3_countAt_19 : decode cX3_countAt 19 = .ok (.iconst 0, 1) := by decide +kernel
theorem dX3_countAt_20 : decode cX3_countAt 20 = .ok (.ireturn, 1) := by decide +kernel
theorem dX3_moveRound_0 : decode cX3_moveRound 0 = .ok (.aload_n 0, 1) := by decide +kernel
theorem dX3_moveRound_1 : decode cX3_moveRound 1 = .ok (.iload_n 1, 1) := by decide +kernel
theorem dX3_moveRound_2 : decode cX3_moveRound 2 = .ok (.iload_n 2, 1) := by decide +kernel
theorem dX3_moveRound_3 : decode cX3_moveRound 3 = .ok (.invokevirtual 107, 3) := by decide +kernel
theorem dX3_moveRound_6 : decode cX3_moveRound 6 = .ok (.istore 4, 2) := by decide +kernel
theorem dX3_moveRound_8 : decode cX3_moveRound 8 = .ok (.iload_n 3, 1) := by decide +kernel
theorem dX3_moveRound_9 : decode cX3_moveRound 9 = .ok (.ifCond .eq 8, 3) := by decide +kernel
theorem dX3_moveRound_12 : decode cX3_moveRound 12 = .ok (.bipush 60, 2) := by decide +kernel
theorem dX3_moveRound_14 : decode cX3_moveRound 14 = .ok (.goto 9, 3) := by decide +kernel
theorem dX3_moveRound_17 : decode cX3_moveRound 17 = .ok (.aload_n 0, 1) := by decide +kernel
theorem dX3_moveRound_18 : decode cX3_moveRound 18 = .ok (.iload 4, 2) := by decide +kernel
theorem dX3_moveRound_20 : decode cX3_moveRound 20 = .ok (.invokevirtual 120, 3) := by decide +kernel
theorem dX3_moveRound_23 : decode cX3_moveRound 23 = .ok (.istore 5, 2) := by decide +kernel
theorem dX3_moveRound_25 : decode cX3_moveRound 25 = .ok (.iconst 0, 1) := by decide +kernel
theorem dX3_moveRound_26 : decode cX3_moveRound 26 = .ok (.istore 6, 2) := by decide +kernel
theorem dX3_moveRound_28 : decode cX3_moveRound 28 = .ok (.iload_n 2, 1) := by decide +kernel
theorem dX3_moveRound_29 : decode cX3_moveRound 29 = .ok (.istore 7, 2) := by decide +kernel
theorem dX3_moveRound_31 : decode cX3_moveRound 31 = .ok (.iload 6, 2) := by decide +kernel
theorem dX3_moveRound_33 : decode cX3_moveRound 33 = .ok (.bipush 20, 2) := by decide +kernel
theorem dX3_moveRound_35 : decode cX3_moveRound 35 = .ok (.if_icmp .ge 66, 3) := by decide +kernel
theorem dX3_moveRound_38 : decode cX3_moveRound 38 = .ok (.iload 7, 2) := by decide +kernel
theorem dX3_moveRound_40 : decode cX3_moveRound 40 = .ok (.iload_n 1, 1) := by decide +kernel
theorem dX3_moveRound_41 : decode cX3_moveRound 41 = .ok (.if_icmp .eq 60, 3) := by decide +kernel
theorem dX3_moveRound_44 : decode cX3_moveRound 44 = .ok (.aload_n 0, 1) := by decide +kernel
theorem dX3_moveRound_45 : decode cX3_moveRound 45 = .ok (.iload 7, 2) := by decide +kernel
theorem dX3_moveRound_47 : decode cX3_moveRound 47 = .ok (.invokevirtual 103, 3) := by decide +kernel
theorem dX3_moveRound_50 : decode cX3_moveRound 50 = .ok (.ifCond .eq 51, 3) := by decide +kernel
theorem dX3_moveRound_53 : decode cX3_moveRound 53 = .ok (.aload_n 0, 1) := by decide +kernel
theorem dX3_moveRound_54 : decode cX3_moveRound 54 = .ok (.getfield 21, 3) := by decide +kernel
theorem dX3_moveRound_57 : decode cX3_moveRound 57 = .ok (.iload 7, 2) := by decide +kernel
theorem dX3_moveRound_59 : decode cX3_moveRound 59 = .ok (.iaload, 1) := by decide +kernel
theorem dX3_moveRound_60 : decode cX3_moveRound 60 = .ok (.istore 8, 2) := by decide +kernel
theorem dX3_moveRound_62 : decode cX3_moveRound 62 = .ok (.aload_n 0, 1) := by decide +kernel
theorem dX3_moveRound_63 : decode cX3_moveRound 63 = .ok (.iload 8, 2) := by decide +kernel
theorem dX3_moveRound_65 : decode cX3_moveRound 65 = .ok (.iload_n 3, 1) := by decide +kernel
theorem dX3_moveRound_66 : decode cX3_moveRound 66 = .ok (.invokevirtual 116, 3) := by decide +kernel
theorem dX3_moveRound_69 : decode cX3_moveRound 69 = .ok (.ifCond .eq 22, 3) := by decide +kernel
theorem dX3_moveRound_72 : decode cX3_moveRound 72 = .ok (.iload 5, 2) := by decide +kernel
theorem dX3_moveRound_74 : decode cX3_moveRound 74 = .ok (.aload_n 0, 1) := by decide +kernel
theorem dX3_moveRound_75 : decode cX3_moveRound 75 = .ok (.aload_n 0, 1) := by decide +kernel
theorem dX3_moveRound_76 : decode cX3_moveRound 76 = .ok (.iload 8, 2) := by decide +kernel
theorem dX3_moveRound_78 : decode cX3_moveRound 78 = .ok (.iload 7, 2) := by decide +kernel
theorem dX3_moveRound_80 : decode cX3_moveRound 80 = .ok (.invokevirtual 107, 3) := by decide +kernel
theorem dX3_moveRound_83 : decode cX3_moveRound 83 = .ok (.invokevirtual 120, 3) := by decide +kernel
theorem dX3_moveRound_86 : decode cX3_moveRound 86 = .ok (.invokestatic 68, 3) := by decide +kernel
theorem dX3_moveRound_89 : decode cX3_moveRound 89 = .ok (.istore 5, 2) := by decide +kernel
theorem dX3_moveRound_91 : decode cX3_moveRound 91 = .ok (.iload 8, 2) := by decide +kernel
theorem dX3_moveRound_93 : decode cX3_moveRound 93 = .ok (.istore 7, 2) := by decide +kernel
theorem dX3_moveRound_95 : decode cX3_moveRound 95 = .ok (.iinc 6 1, 3) := by decide +kernel
theorem dX3_moveRound_98 : decode cX3_moveRound 98 = .ok (.goto (-67), 3) := by decide +kernel
theorem dX3_moveRound_101 : decode cX3_moveRound 101 = .ok (.iconst 0, 1) := by decide +kernel
theorem dX3_moveRound_102 : decode cX3_moveRound 102 = .ok (.istore 6, 2) := by decide +kernel
theorem dX3_moveRound_104 : decode cX3_moveRound 104 = .ok (.iload_n 2, 1) := by decide +kernel
theorem dX3_moveRound_105 : decode cX3_moveRound 105 = .ok (.istore 7, 2) := by decide +kernel
theorem dX3_moveRound_107 : decode cX3_moveRound 107 = .ok (.iload 6, 2) := by decide +kernel
theorem dX3_moveRound_109 : decode cX3_moveRound 109 = .ok (.bipush 20, 2) := by decide +kernel
theorem dX3_moveRound_111 : decode cX3_moveRound 111 = .ok (.if_icmp .ge 67, 3) := by decide +kernel
theorem dX3_moveRound_114 : decode cX3_moveRound 114 = .ok (.iload 7, 2) := by decide +kernel
theorem dX3_moveRound_116 : decode cX3_moveRound 116 = .ok (.iload_n 1, 1) := by decide +kernel
theorem dX3_moveRound_117 : decode cX3_moveRound 117 = .ok (.if_icmp .eq 61, 3) := by decide +kernel
theorem dX3_moveRound_120 : decode cX3_moveRound 120 = .ok (.aload_n 0, 1) := by decide +kernel
theorem dX3_moveRound_121 : decode cX3_moveRound 121 = .ok (.iload 7, 2) := by decide +kernel
theorem dX3_moveRound_123 : decode cX3_moveRound 123 = .ok (.invokevirtual 103, 3) := by decide +kernel
theorem dX3_moveRound_126 : decode cX3_moveRound 126 = .ok (.ifCond .eq 52, 3) := by decide +kernel
theorem dX3_moveRound_129 : decode cX3_moveRound 129 = .ok (.aload_n 0, 1) := by decide +kernel
theorem dX3_moveRound_130 : decode cX3_moveRound 130 = .ok (.getfield 21, 3) := by decide +kernel
theorem dX3_moveRound_133 : decode cX3_moveRound 133 = .ok (.iload 7, 2) := by decide +kernel
theorem dX3_moveRound_135 : decode cX3_moveRound 135 = .ok (.iaload, 1) := by decide +kernel
theorem dX3_moveRound_136 : decode cX3_moveRound 136 = .ok (.istore 8, 2) := by decide +kernel
theorem dX3_moveRound_138 : decode cX3_moveRound 138 = .ok (.aload_n 0, 1) := by decide +kernel
theorem dX3_moveRound_139 : decode cX3_moveRound 139 = .ok (.aload_n 0, 1) := by decide +kernel
theorem dX3_moveRound_140 : decode cX3_moveRound 140 = .ok (.iload 8, 2) := by decide +kernel
theorem dX3_moveRound_142 : decode cX3_moveRound 142 = .ok (.iload 7, 2) := by decide +kernel
theorem dX3_moveRound_144 : decode cX3_moveRound 144 = .ok (.invokevirtual 107, 3) := by decide +kernel
theorem dX3_moveRound_147 : decode cX3_moveRound 147 = .ok (.aload_n 0, 1) := by decide +kernel
theorem dX3_moveRound_148 : decode cX3_moveRound 148 = .ok (.iload 8, 2) := by decide +kernel
theorem dX3_moveRound_150 : decode cX3_moveRound 150 = .ok (.iload_n 3, 1) := by decide +kernel
theorem dX3_moveRound_151 : decode cX3_moveRound 151 = .ok (.invokevirtual 116, 3) := by decide +kernel
theorem dX3_moveRound_154 : decode cX3_moveRound 154 = .ok (.ifCond .eq 9, 3) := by decide +kernel
theorem dX3_moveRound_157 : decode cX3_moveRound 157 = .ok (.iload 5, 2) := by decide +kernel
theorem dX3_moveRound_159 : decode cX3_moveRound 159 = .ok (.ineg, 1) := by decide +kernel
theorem dX3_moveRound_160 : decode cX3_moveRound 160 = .ok (.goto 5, 3) := by decide +kernel
theorem dX3_moveRound_163 : decode cX3_moveRound 163 = .ok (.iload 5, 2) := by decide +kernel
theorem dX3_moveRound_165 : decode cX3_moveRound 165 = .ok (.invokevirtual 123, 3) := by decide +kernel
theorem dX3_moveRound_168 : decode cX3_moveRound 168 = .ok (.iload 8, 2) := by decide +kernel
theorem dX3_moveRound_170 : decode cX3_moveRound 170 = .ok (.istore 7, 2) := by decide +kernel
theorem dX3_moveRound_172 : decode cX3_moveRound 172 = .ok (.iinc 6 1, 3) := by decide +kernel
theorem dX3_moveRound_175 : decode cX3_moveRound 175 = .ok (.goto (-68), 3) := by decide +kernel
theorem dX3_moveRound_178 : decode cX3_moveRound 178 = .ok (.aload_n 0, 1) := by decide +kernel
theorem dX3_moveRound_179 : decode cX3_moveRound 179 = .ok (.iload 4, 2) := by decide +kernel
theorem dX3_moveRound_181 : decode cX3_moveRound 181 = .ok (.iload_n 3, 1) := by decide +kernel
theorem dX3_moveRound_182 : decode cX3_moveRound 182 = .ok (.ifCond .eq 8, 3) := by decide +kernel
theorem dX3_moveRound_185 : decode cX3_moveRound 185 = .ok (.iload 5, 2) := by decide +kernel
theorem dX3_moveRound_187 : decode cX3_moveRound 187 = .ok (.goto 6, 3) := by decide +kernel
theorem dX3_moveRound_190 : decode cX3_moveRound 190 = .ok (.iload 5, 2) := by decide +kernel
theorem dX3_moveRound_192 : decode cX3_moveRound 192 = .ok (.ineg, 1) := by decide +kernel
theorem dX3_moveRound_193 : decode cX3_moveRound 193 = .ok (.invokevirtual 123, 3) := by decide +kernel
theorem dX3_moveRound_196 : decode cX3_moveRound 196 = .ok (.return_, 1) := by decide +kernel
theorem dX3_change_0 : decode cX3_change 0 = .ok (.iload_n 1, 1) := by decide +kernel
theorem dX3_change_1 : decode cX3_change 1 = .ok (.ifCond .lt 19, 3) := by decide +kernel
theorem dX3_change_4 : decode cX3_change 4 = .ok (.iload_n 1, 1) := by decide +kernel
theorem dX3_change_5 : decode cX3_change 5 = .ok (.bipush 100, 2) := by decide +kernel
theorem dX3_change_7 : decode cX3_change 7 = .ok (.if_icmp .ge 13, 3) := by decide +kernel
theorem dX3_change_10 : decode cX3_change 10 = .ok (.aload_n 0, 1) := by decide +kernel
theorem dX3_change_11 : decode cX3_change 11 = .ok (.getfield 18, 3) := by decide +kernel
theorem dX3_change_14 : decode cX3_change 14 = .ok (.iload_n 1, 1) := by decide +kernel
theorem dX3_change_15 : decode cX3_change 15 = .ok (.dup2, 1) := by decide +kernel
theorem dX3_change_16 : decode cX3_change 16 = .ok (.iaload, 1) := by decide +kernel
theorem dX3_change_17 : decode cX3_change 17 = .ok (.iload_n 2, 1) := by decide +kernel
theorem dX3_change_18 : decode cX3_change 18 = .ok (.iadd, 1) := by decide +kernel
theorem dX3_change_19 : decode cX3_change 19 = .ok (.iastore, 1) := by decide +kernel
theorem dX3_change_20 : decode cX3_change 20 = .ok (.return_, 1) := by decide +kernel
theorem dX4_init_0 : decode cX4_init 0 = .ok (.aload_n 0, 1) := by decide +kernel
theorem dX4_init_1 : decode cX4_init 1 = .ok (.invokespecial 3, 3) := by decide +kernel
theorem dX4_init_4 : decode cX4_init 4 = .ok (.aload_n 0, 1) := by decide +kernel
theorem dX4_init_5 : decode cX4_init 5 = .ok (.bipush 100, 2) := by decide +kernel
theorem dX4_init_7 : decode cX4_init 7 = .ok (.newarray .int, 2) := by decide +kernel
theorem dX4_init_9 : decode cX4_init 9 = .ok (.putfield 9, 3) := by decide +kernel
theorem dX4_init_12 : decode cX4_init 12 = .ok (.return_, 1) := by decide +kernel
theorem dX4_clear_0 : decode cX4_clear 0 = .ok (.aload_n 0, 1) := by decide +kernel
theorem dX4_clear_1 : decode cX4_clear 1 = .ok (.iconst 0, 1) := by decide +kernel
theorem dX4_clear_2 : decode cX4_clear 2 = .ok (.putfield 15, 3) := by decide +kernel
theorem dX4_clear_5 : decode cX4_clear 5 = .ok (.aload_n 0, 1) := by decide +kernel
theorem dX4_clear_6 : decode cX4_clear 6 = .ok (.iconst 0, 1) := by decide +kernel
theorem dX4_clear_7 : decode cX4_clear 7 = .ok (.putfield 19, 3) := by decide +kernel
theorem dX4_clear_10 : decode cX4_clear 10 = .ok (.return_, 1) := by decide +kernel
theorem dX4_isFull_0 : decode cX4_isFull 0 = .ok (.aload_n 0, 1) := by decide +kernel
theorem dX4_isFull_1 : decode cX4_isFull 1 = .ok (.getfield 19, 3) := by decide +kernel
theorem dX4_isFull_4 : decode cX4_isFull 4 = .ok (.bipush 100, 2) := by decide +kernel
theorem dX4_isFull_6 : decode cX4_isFull 6 = .ok (.if_icmp .lt 7, 3) := by decide +kernel
theorem dX4_isFull_9 : decode cX4_isFull 9 = .ok (.iconst 1, 1) := by decide +kernel
theorem dX4_isFull_10 : decode cX4_isFull 10 = .ok (.goto 4, 3) := by decide +kernel
theorem dX4_isFull_13 : decode cX4_isFull 13 = .ok (.iconst 0, 1) := by decide +kernel
theorem dX4_isFull_14 : decode cX4_isFull 14 = .ok (.ireturn, 1) := by decide +kernel
theorem dX4_add_0 : decode cX4_add 0 = .ok (.aload_n 0, 1) := by decide +kernel
theorem dX4_add_1 : decode cX4_add 1 = .ok (.getfield 15, 3) := by decide +kernel
theorem dX4_add_4 : decode cX4_add 4 = .ok (.aload_n 0, 1) := by decide +kernel
theorem dX4_add_5 : decode cX4_add 5 = .ok (.getfield 19, 3) := by decide +kernel
theorem dX4_add_8 : decode cX4_add 8 = .ok (.iadd, 1) := by decide +kernel
theorem dX4_add_9 : decode cX4_add 9 = .ok (.bipush 100, 2) := by decide +kernel
theorem dX4_add_11 : decode cX4_add 11 = .ok (.irem, 1) := by decide +kernel
theorem dX4_add_12 : decode cX4_add 12 = .ok (.istore_n 2, 1) := by decide +kernel
theorem dX4_add_13 : decode cX4_add 13 = .ok (.aload_n 0, 1) := by decide +kernel
theorem dX4_add_14 : decode cX4_add 14 = .ok (.invokevirtual 22, 3) := by decide +kernel
theorem dX4_add_17 : decode cX4_add 17 = .ok (.ifCond .ne 24, 3) := by decide +kernel
theorem dX4_add_20 : decode cX4_add 20 = .ok (.iload_n 2, 1) := by decide +kernel
theorem dX4_add_21 : decode cX4_add 21 = .ok (.ifCond .lt 20, 3) := by decide +kernel
theorem dX4_add_24 : decode cX4_add 24 = .ok (.aload_n 0, 1) := by decide +kernel
theorem dX4_add_25 : decode cX4_add 25 = .ok (.getfield 9, 3) := by decide +kernel
theorem dX4_add_28 : decode cX4_add 28 = .ok (.iload_n 2, 1) := by decide +kernel
theorem dX4_add_29 : decode cX4_add 29 = .ok (.iload_n 1, 1) := by decide +kernel
theorem dX4_add_30 : decode cX4_add 30 = .ok (.iastore, 1) := by decide +kernel
theorem dX4_add_31 : decode cX4_add 31 = .ok (.aload_n 0, 1) := by decide +kernel
theorem dX4_add_32 : decode cX4_add 32 = .ok (.dup, 1) := by decide +kernel
theorem dX4_add_33 : decode cX4_add 33 = .ok (.getfield 19, 3) := by decide +kernel
theorem dX4_add_36 : decode cX4_add 36 = .ok (.iconst 1, 1) := by decide +kernel
theorem dX4_add_37 : decode cX4_add 37 = .ok (.iadd, 1) := by decide +kernel
theorem dX4_add_38 : decode cX4_add 38 = .ok (.putfield 19, 3) := by decide +kernel
theorem dX4_add_41 : decode cX4_add 41 = .ok (.aload_n 0, 1) := by decide +kernel
theorem dX4_add_42 : decode cX4_add 42 = .ok (.getfield 19, 3) := by decide +kernel
theorem dX4_add_45 : decode cX4_add 45 = .ok (.ireturn, 1) := by decide +kernel
theorem dX4_take_0 : decode cX4_take 0 = .ok (.aload_n 0, 1) := by decide +kernel
theorem dX4_take_1 : decode cX4_take 1 = .ok (.getfield 19, 3) := by decide +kernel
theorem dX4_take_4 : decode cX4_take 4 = .ok (.ifCond .le 19, 3) := by decide +kernel
theorem dX4_take_7 : decode cX4_take 7 = .ok (.aload_n 0, 1) := by decide +kernel
theorem dX4_take_8 : decode cX4_take 8 = .ok (.getfield 15, 3) := by decide +kernel
theorem dX4_take_11 : decode cX4_take 11 = .ok (.ifCond .lt 12, 3) := by decide +kernel
theorem dX4_take_14 : decode cX4_take 14 = .ok (.aload_n 0, 1) := by decide +kernel
theorem dX4_take_15 : decode cX4_take 15 = .ok (.getfield 15, 3) := by decide +kernel
theorem dX4_take_18 : decode cX4_take 18 = .ok (.bipush 100, 2) := by decide +kernel
theorem dX4_take_20 : decode cX4_take 20 = .ok (.if_icmp .lt 5, 3) := by decide +kernel
theorem dX4_take_23 : decode cX4_take 23 = .ok (.iconst 0, 1) := by decide +kernel
theorem dX4_take_24 : decode cX4_take 24 = .ok (.ireturn, 1) := by decide +kernel
theorem dX4_take_25 : decode cX4_take 25 = .ok (.aload_n 0, 1) := by decide +kernel
theorem dX4_take_26 : decode cX4_take 26 = .ok (.getfield 9, 3) := by decide +kernel
theorem dX4_take_29 : decode cX4_take 29 = .ok (.aload_n 0, 1) := by decide +kernel
theorem dX4_take_30 : decode cX4_take 30 = .ok (.getfield 15, 3) := by decide +kernel
theorem dX4_take_33 : decode cX4_take 33 = .ok (.iaload, 1) := by decide +kernel
theorem dX4_take_34 : decode cX4_take 34 = .ok (.istore_n 1, 1) := by decide +kernel
theorem dX4_take_35 : decode cX4_take 35 = .ok (.aload_n 0, 1) := by decide +kernel
theorem dX4_take_36 : decode cX4_take 36 = .ok (.aload_n 0, 1) := by decide +kernel
theorem dX4_take_37 : decode cX4_take 37 = .ok (.getfield 15, 3) := by decide +kernel
theorem dX4_take_40 : decode cX4_take 40 = .ok (.iconst 1, 1) := by decide +kernel
theorem dX4_take_41 : decode cX4_take 41 = .ok (.iadd, 1) := by decide +kernel
theorem dX4_take_42 : decode cX4_take 42 = .ok (.bipush 100, 2) := by decide +kernel
theorem dX4_take_44 : decode cX4_take 44 = .ok (.irem, 1) := by decide +kernel
theorem dX4_take_45 : decode cX4_take 45 = .ok (.putfield 15, 3) := by decide +kernel
theorem dX4_take_48 : decode cX4_take 48 = .ok (.aload_n 0, 1) := by decide +kernel
theorem dX4_take_49 : decode cX4_take 49 = .ok (.dup, 1) := by decide +kernel
theorem dX4_take_50 : decode cX4_take 50 = .ok (.getfield 19, 3) := by decide +kernel
theorem dX4_take_53 : decode cX4_take 53 = .ok (.iconst 1, 1) := by decide +kernel
theorem dX4_take_54 : decode cX4_take 54 = .ok (.isub, 1) := by decide +kernel
theorem dX4_take_55 : decode cX4_take 55 = .ok (.putfield 19, 3) := by decide +kernel
theorem dX4_take_58 : decode cX4_take 58 = .ok (.iload_n 1, 1) := by decide +kernel
theorem dX4_take_59 : decode cX4_take 59 = .ok (.ireturn, 1) := by decide +kernel
theorem dX5_init_0 : decode cX5_init 0 = .ok (.aload_n 0, 1) := by decide +kernel
theorem dX5_init_1 : decode cX5_init 1 = .ok (.invokespecial 3, 3) := by decide +kernel
theorem dX5_init_4 : decode cX5_init 4 = .ok (.aload_n 0, 1) := by decide +kernel
theorem dX5_init_5 : decode cX5_init 5 = .ok (.iconst (-1), 1) := by decide +kernel
theorem dX5_init_6 : decode cX5_init 6 = .ok (.putfield 9, 3) := by decide +kernel
theorem dX5_init_9 : decode cX5_init 9 = .ok (.aload_n 0, 1) := by decide +kernel
theorem dX5_init_10 : decode cX5_init 10 = .ok (.bipush 6, 2) := by decide +kernel
theorem dX5_init_12 : decode cX5_init 12 = .ok (.newarray .int, 2) := by decide +kernel
theorem dX5_init_14 : decode cX5_init 14 = .ok (.putfield 15, 3) := by decide +kernel
theorem dX5_init_17 : decode cX5_init 17 = .ok (.aload_n 0, 1) := by decide +kernel
theorem dX5_init_18 : decode cX5_init 18 = .ok (.bipush 6, 2) := by decide +kernel
theorem dX5_init_20 : decode cX5_init 20 = .ok (.newarray .int, 2) := by decide +kernel
theorem dX5_init_22 : decode cX5_init 22 = .ok (.putfield 19, 3) := by decide +kernel
theorem dX5_init_25 : decode cX5_init 25 = .ok (.aload_n 0, 1) := by decide +kernel
theorem dX5_init_26 : decode cX5_init 26 = .ok (.bipush 6, 2) := by decide +kernel
theorem dX5_init_28 : decode cX5_init 28 = .ok (.newarray .int, 2) := by decide +kernel
theorem dX5_init_30 : decode cX5_init 30 = .ok (.putfield 22, 3) := by decide +kernel
theorem dX5_init_33 : decode cX5_init 33 = .ok (.aload_n 0, 1) := by decide +kernel
theorem dX5_init_34 : decode cX5_init 34 = .ok (.bipush 6, 2) := by decide +kernel
theorem dX5_init_36 : decode cX5_init 36 = .ok (.newarray .int, 2) := by decide +kernel
theorem dX5_init_38 : decode cX5_init 38 = .ok (.putfield 25, 3) := by decide +kernel
theorem dX5_init_41 : decode cX5_init 41 = .ok (.aload_n 0, 1) := by decide +kernel
theorem dX5_init_42 : decode cX5_init 42 = .ok (.bipush 12, 2) := by decide +kernel
theorem dX5_init_44 : decode cX5_init 44 = .ok (.newarray .int, 2) := by decide +kernel
theorem dX5_init_46 : decode cX5_init 46 = .ok (.putfield 28, 3) := by decide +kernel
theorem dX5_init_49 : decode cX5_init 49 = .ok (.aload_n 0, 1) := by decide +kernel
theorem dX5_init_50 : decode cX5_init 50 = .ok (.bipush 60, 2) := by decide +kernel
theorem dX5_init_52 : decode cX5_init 52 = .ok (.newarray .int, 2) := by decide +kernel
theorem dX5_init_54 : decode cX5_init 54 = .ok (.putfield 31, 3) := by decide +kernel
theorem dX5_init_57 : decode cX5_init 57 = .ok (.aload_n 0, 1) := by decide +kernel
theorem dX5_init_58 : decode cX5_init 58 = .ok (.aload_n 1, 1) := by decide +kernel
theorem dX5_init_59 : decode cX5_init 59 = .ok (.putfield 34, 3) := by decide +kernel
theorem dX5_init_62 : decode cX5_init 62 = .ok (.return_, 1) := by decide +kernel
theorem dX5_mendRow_0 : decode cX5_mendRow 0 = .ok (.aload_n 0, 1) := by decide +kernel
theorem dX5_mendRow_1 : decode cX5_mendRow 1 = .ok (.getfield 34, 3) := by decide +kernel
theorem dX5_mendRow_4 : decode cX5_mendRow 4 = .ok (.iload_n 1, 1) := by decide +kernel
theorem dX5_mendRow_5 : decode cX5_mendRow 5 = .ok (.aload_n 0, 1) := by decide +kernel
theorem dX5_mendRow_6 : decode cX5_mendRow 6 = .ok (.getfield 34, 3) := by decide +kernel
theorem dX5_mendRow_9 : decode cX5_mendRow 9 = .ok (.getfield 38, 3) := by decide +kernel
theorem dX5_mendRow_12 : decode cX5_mendRow 12 = .ok (.iconst 0, 1) := by decide +kernel
theorem dX5_mendRow_13 : decode cX5_mendRow 13 = .ok (.aload_n 0, 1) := by decide +kernel
theorem dX5_mendRow_14 : decode cX5_mendRow 14 = .ok (.getfield 15, 3) := by decide +kernel
theorem dX5_mendRow_17 : decode cX5_mendRow 17 = .ok (.invokevirtual 43, 3) := by decide +kernel
theorem dX5_mendRow_20 : decode cX5_mendRow 20 = .ok (.aload_n 0, 1) := by decide +kernel
theorem dX5_mendRow_21 : decode cX5_mendRow 21 = .ok (.invokevirtual 47, 3) := by decide +kernel
theorem dX5_mendRow_24 : decode cX5_mendRow 24 = .ok (.istore_n 2, 1) := by decide +kernel
theorem dX5_mendRow_25 : decode cX5_mendRow 25 = .ok (.iload_n 2, 1) := by decide +kernel
theorem dX5_mendRow_26 : decode cX5_mendRow 26 = .ok (.ifCond .ne 5, 3) := by decide +kernel
theorem dX5_mendRow_29 : decode cX5_mendRow 29 = .ok (.iconst 0, 1) := by decide +kernel
theorem dX5_mendRow_30 : decode cX5_mendRow 30 = .ok (.ireturn, 1) := by decide +kernel
theorem dX5_mendRow_31 : decode cX5_mendRow 31 = .ok (.aload_n 0, 1) := by decide +kernel
theorem dX5_mendRow_32 : decode cX5_mendRow 32 = .ok (.aload_n 0, 1) := by decide +kernel
theorem dX5_mendRow_33 : decode cX5_mendRow 33 = .ok (.iload_n 1, 1) := by decide +kernel
theorem dX5_mendRow_34 : decode cX5_mendRow 34 = .ok (.iload_n 2, 1) := by decide +kernel
theorem dX5_mendRow_35 : decode cX5_mendRow 35 = .ok (.iload_n 2, 1) := by decide +kernel
theorem dX5_mendRow_36 : decode cX5_mendRow 36 = .ok (.invokevirtual 51, 3) := by decide +kernel
theorem dX5_mendRow_39 : decode cX5_mendRow 39 = .ok (.ifCond .le 12, 3) := by decide +kernel
theorem dX5_mendRow_42 : decode cX5_mendRow 42 = .ok (.aload_n 0, 1) := by decide +kernel
theorem dX5_mendRow_43 : decode cX5_mendRow 43 = .ok (.getfield 31, 3) := by decide +kernel
theorem dX5_mendRow_46 : decode cX5_mendRow 46 = .ok (.iconst 0, 1) := by decide +kernel
theorem dX5_mendRow_47 : decode cX5_mendRow 47 = .ok (.iaload, 1) := by decide +kernel
theorem dX5_mendRow_48 : decode cX5_mendRow 48 = .ok (.goto 5, 3) := by decide +kernel
theorem dX5_mendRow_51 : decode cX5_mendRow 51 = .ok (.bipush (-2), 2) := by decide +kernel
theorem dX5_mendRow_53 : decode cX5_mendRow 53 = .ok (.putfield 9, 3) := by decide +kernel
theorem dX5_mendRow_56 : decode cX5_mendRow 56 = .ok (.aload_n 0, 1) := by decide +kernel
theorem dX5_mendRow_57 : decode cX5_mendRow 57 = .ok (.getfield 9, 3) := by decide +kernel
theorem dX5_mendRow_60 : decode cX5_mendRow 60 = .ok (.bipush (-2), 2) := by decide +kernel
theorem dX5_mendRow_62 : decode cX5_mendRow 62 = .ok (.if_icmp .ne 12, 3) := by decide +kernel
theorem dX5_mendRow_65 : decode cX5_mendRow 65 = .ok (.aload_n 0, 1) := by decide +kernel
theorem dX5_mendRow_66 : decode cX5_mendRow 66 = .ok (.iload_n 2, 1) := by decide +kernel
theorem dX5_mendRow_67 : decode cX5_mendRow 67 = .ok (.invokevirtual 55, 3) := by decide +kernel
theorem dX5_mendRow_70 : decode cX5_mendRow 70 = .ok (.pop, 1) := by decide +kernel
theorem dX5_mendRow_71 : decode cX5_mendRow 71 = .ok (.goto 12, 3) := by decide +kernel
theorem dX5_mendRow_74 : decode cX5_mendRow 74 = .ok (.aload_n 0, 1) := by decide +kernel
theorem dX5_mendRow_75 : decode cX5_mendRow 75 = .ok (.aload_n 0, 1) := by decide +kernel
theorem dX5_mendRow_76 : decode cX5_mendRow 76 = .ok (.getfield 9, 3) := by decide +kernel
theorem dX5_mendRow_79 : decode cX5_mendRow 79 = .ok (.iload_n 2, 1) := by decide +kernel
theorem dX5_mendRow_80 : decode cX5_mendRow 80 = .ok (.invokevirtual 59, 3) := by decide +kernel
theorem dX5_mendRow_83 : decode cX5_mendRow 83 = .ok (.aload_n 0, 1) := by decide +kernel
theorem dX5_mendRow_84 : decode cX5_mendRow 84 = .ok (.getfield 34, 3) := by decide +kernel
theorem dX5_mendRow_87 : decode cX5_mendRow 87 = .ok (.iload_n 1, 1) := by decide +kernel
theorem dX5_mendRow_88 : decode cX5_mendRow 88 = .ok (.aload_n 0, 1) := by decide +kernel
theorem dX5_mendRow_89 : decode cX5_mendRow 89 = .ok (.getfield 22, 3) := by decide +kernel
theorem dX5_mendRow_92 : decode cX5_mendRow 92 = .ok (.invokevirtual 63, 3) := by decide +kernel
theorem dX5_mendRow_95 : decode cX5_mendRow 95 = .ok (.iload_n 2, 1) := by decide +kernel
theorem dX5_mendRow_96 : decode cX5_mendRow 96 = .ok (.ireturn, 1) := by decide +kernel
theorem dX5_fillRow_0 : decode cX5_fillRow 0 = .ok (.aload_n 0, 1) := by decide +kernel
theorem dX5_fillRow_1 : decode cX5_fillRow 1 = .ok (.getfield 34, 3) := by decide +kernel
theorem dX5_fillRow_4 : decode cX5_fillRow 4 = .ok (.iload_n 1, 1) := by decide +kernel
theorem dX5_fillRow_5 : decode cX5_fillRow 5 = .ok (.aload_n 0, 1) := by decide +kernel
theorem dX5_fillRow_6 : decode cX5_fillRow 6 = .ok (.getfield 34, 3) := by decide +kernel
theorem dX5_fillRow_9 : decode cX5_fillRow 9 = .ok (.getfield 38, 3) := by decide +kernel
theorem dX5_fillRow_12 : decode cX5_fillRow 12 = .ok (.iconst 0, 1) := by decide +kernel
theorem dX5_fillRow_13 : decode cX5_fillRow 13 = .ok (.aload_n 0, 1) := by decide +kernel
theorem dX5_fillRow_14 : decode cX5_fillRow 14 = .ok (.getfield 15, 3) := by decide +kernel
theorem dX5_fillRow_17 : decode cX5_fillRow 17 = .ok (.invokevirtual 43, 3) := by decide +kernel
theorem dX5_fillRow_20 : decode cX5_fillRow 20 = .ok (.aload_n 0, 1) := by decide +kernel
theorem dX5_fillRow_21 : decode cX5_fillRow 21 = .ok (.getfield 34, 3) := by decide +kernel
theorem dX5_fillRow_24 : decode cX5_fillRow 24 = .ok (.getfield 67, 3) := by decide +kernel
theorem dX5_fillRow_27 : decode cX5_fillRow 27 = .ok (.aload_n 0, 1) := by decide +kernel
theorem dX5_fillRow_28 : decode cX5_fillRow 28 = .ok (.getfield 15, 3) := by decide +kernel
theorem dX5_fillRow_31 : decode cX5_fillRow 31 = .ok (.invokevirtual 71, 3) := by decide +kernel
theorem dX5_fillRow_34 : decode cX5_fillRow 34 = .ok (.istore_n 3, 1) := by decide +kernel
theorem dX5_fillRow_35 : decode cX5_fillRow 35 = .ok (.aload_n 0, 1) := by decide +kernel
theorem dX5_fillRow_36 : decode cX5_fillRow 36 = .ok (.iload_n 1, 1) := by decide +kernel
theorem dX5_fillRow_37 : decode cX5_fillRow 37 = .ok (.iload_n 3, 1) := by decide +kernel
theorem dX5_fillRow_38 : decode cX5_fillRow 38 = .ok (.aload_n 0, 1) := by decide +kernel
theorem dX5_fillRow_39 : decode cX5_fillRow 39 = .ok (.getfield 34, 3) := by decide +kernel
theorem dX5_fillRow_42 : decode cX5_fillRow 42 = .ok (.getfield 67, 3) := by decide +kernel
theorem dX5_fillRow_45 : decode cX5_fillRow 45 = .ok (.invokevirtual 77, 3) := by decide +kernel
theorem dX5_fillRow_48 : decode cX5_fillRow 48 = .ok (.invokevirtual 51, 3) := by decide +kernel
theorem dX5_fillRow_51 : decode cX5_fillRow 51 = .ok (.istore 4, 2) := by decide +kernel
theorem dX5_fillRow_53 : decode cX5_fillRow 53 = .ok (.iload 4, 2) := by decide +kernel
theorem dX5_fillRow_55 : decode cX5_fillRow 55 = .ok (.ifCond .gt 5, 3) := by decide +kernel
theorem dX5_fillRow_58 : decode cX5_fillRow 58 = .ok (.iconst 0, 1) := by decide +kernel
theorem dX5_fillRow_59 : decode cX5_fillRow 59 = .ok (.ireturn, 1) := by decide +kernel
theorem dX5_fillRow_60 : decode cX5_fillRow 60 = .ok (.iconst 0, 1) := by decide +kernel
theorem dX5_fillRow_61 : decode cX5_fillRow 61 = .ok (.istore 5, 2) := by decide +kernel
theorem dX5_fillRow_63 : decode cX5_fillRow 63 = .ok (.iload 5, 2) := by decide +kernel
theorem dX5_fillRow_65 : decode cX5_fillRow 65 = .ok (.iconst 5, 1) := by decide +kernel
theorem dX5_fillRow_66 : decode cX5_fillRow 66 = .ok (.if_icmp .ge 59, 3) := by decide +kernel
theorem dX5_fillRow_69 : decode cX5_fillRow 69 = .ok (.iload_n 2, 1) := by decide +kernel
theorem dX5_fillRow_70 : decode cX5_fillRow 70 = .ok (.iload 5, 2) := by decide +kernel
theorem dX5_fillRow_72 : decode cX5_fillRow 72 = .ok (.iadd, 1) := by decide +kernel
theorem dX5_fillRow_73 : decode cX5_fillRow 73 = .ok (.iload 4, 2) := by decide +kernel
theorem dX5_fillRow_75 : decode cX5_fillRow 75 = .ok (.irem, 1) := by decide +kernel
theorem dX5_fillRow_76 : decode cX5_fillRow 76 = .ok (.istore 6, 2) := by decide +kernel
theorem dX5_fillRow_78 : decode cX5_fillRow 78 = .ok (.iload 6, 2) := by decide +kernel
theorem dX5_fillRow_80 : decode cX5_fillRow 80 = .ok (.ifCond .lt 25, 3) := by decide +kernel
theorem dX5_fillRow_83 : decode cX5_fillRow 83 = .ok (.iload 6, 2) := by decide +kernel
theorem dX5_fillRow_85 : decode cX5_fillRow 85 = .ok (.aload_n 0, 1) := by decide +kernel
theorem dX5_fillRow_86 : decode cX5_fillRow 86 = .ok (.getfield 31, 3) := by decide +kernel
theorem dX5_fillRow_89 : decode cX5_fillRow 89 = .ok (.arraylength, 1) := by decide +kernel
theorem dX5_fillRow_90 : decode cX5_fillRow 90 = .ok (.if_icmp .ge 15, 3) := by decide +kernel
theorem dX5_fillRow_93 : decode cX5_fillRow 93 = .ok (.aload_n 0, 1) := by decide +kernel
theorem dX5_fillRow_94 : decode cX5_fillRow 94 = .ok (.aload_n 0, 1) := by decide +kernel
theorem dX5_fillRow_95 : decode cX5_fillRow 95 = .ok (.getfield 31, 3) := by decide +kernel
theorem dX5_fillRow_98 : decode cX5_fillRow 98 = .ok (.iload 6, 2) := by decide +kernel
theorem dX5_fillRow_100 : decode cX5_fillRow 100 = .ok (.iaload, 1) := by decide +kernel
theorem dX5_fillRow_101 : decode cX5_fillRow 101 = .ok (.iload_n 3, 1) := by decide +kernel
theorem dX5_fillRow_102 : decode cX5_fillRow 102 = .ok (.invokevirtual 59, 3) := by decide +kernel
theorem dX5_fillRow_105 : decode cX5_fillRow 105 = .ok (.aload_n 0, 1) := by decide +kernel
theorem dX5_fillRow_106 : decode cX5_fillRow 106 = .ok (.getfield 34, 3) := by decide +kernel
theorem dX5_fillRow_109 : decode cX5_fillRow 109 = .ok (.iload_n 1, 1) := by decide +kernel
theorem dX5_fillRow_110 : decode cX5_fillRow 110 = .ok (.iload 5, 2) := by decide +kernel
theorem dX5_fillRow_112 : decode cX5_fillRow 112 = .ok (.aload_n 0, 1) := by decide +kernel
theorem dX5_fillRow_113 : decode cX5_fillRow 113 = .ok (.getfield 22, 3) := by decide +kernel
theorem dX5_fillRow_116 : decode cX5_fillRow 116 = .ok (.invokevirtual 80, 3) := by decide +kernel
theorem dX5_fillRow_119 : decode cX5_fillRow 119 = .ok (.iinc 5 1, 3) := by decide +kernel
theorem dX5_fillRow_122 : decode cX5_fillRow 122 = .ok (.goto (-59), 3) := by decide +kernel
theorem dX5_fillRow_125 : decode cX5_fillRow 125 = .ok (.aload_n 0, 1) := by decide +kernel
theorem dX5_fillRow_126 : decode cX5_fillRow 126 = .ok (.getfield 34, 3) := by decide +kernel
theorem dX5_fillRow_129 : decode cX5_fillRow 129 = .ok (.iload_n 1, 1) := by decide +kernel
theorem dX5_fillRow_130 : decode cX5_fillRow 130 = .ok (.invokevirtual 84, 3) := by decide +kernel
theorem dX5_fillRow_133 : decode cX5_fillRow 133 = .ok (.iload 4, 2) := by decide +kernel
theorem dX5_fillRow_135 : decode cX5_fillRow 135 = .ok (.ireturn, 1) := by decide +kernel
theorem dX5_cheapestSet_0 : decode cX5_cheapestSet 0 = .ok (.aload_n 0, 1) := by decide +kernel
theorem dX5_cheapestSet_1 : decode cX5_cheapestSet 1 = .ok (.getfield 34, 3) := by decide +kernel
theorem dX5_cheapestSet_4 : decode cX5_cheapestSet 4 = .ok (.getfield 67, 3) := by decide +kernel
theorem dX5_cheapestSet_7 : decode cX5_cheapestSet 7 = .ok (.invokevirtual 77, 3) := by decide +kernel
theorem dX5_cheapestSet_10 : decode cX5_cheapestSet 10 = .ok (.aload_n 0, 1) := by decide +kernel
theorem dX5_cheapestSet_11 : decode cX5_cheapestSet 11 = .ok (.getfield 34, 3) := by decide +kernel
theorem dX5_cheapestSet_14 : decode cX5_cheapestSet 14 = .ok (.getfield 67, 3) := by decide +kernel
theorem dX5_cheapestSet_17 : decode cX5_cheapestSet 17 = .ok (.aload_n 0, 1) := by decide +kernel
theorem dX5_cheapestSet_18 : decode cX5_cheapestSet 18 = .ok (.getfield 15, 3) := by decide +kernel
theorem dX5_cheapestSet_21 : decode cX5_cheapestSet 21 = .ok (.invokevirtual 71, 3) := by decide +kernel
theorem dX5_cheapestSet_24 : decode cX5_cheapestSet 24 = .ok (.iconst (-1), 1) := by decide +kernel
theorem dX5_cheapestSet_25 : decode cX5_cheapestSet 25 = .ok (.ixor, 1) := by decide +kernel
theorem dX5_cheapestSet_26 : decode cX5_cheapestSet 26 = .ok (.iand, 1) := by decide +kernel
theorem dX5_cheapestSet_27 : decode cX5_cheapestSet 27 = .ok (.istore_n 1, 1) := by decide +kernel
theorem dX5_cheapestSet_28 : decode cX5_cheapestSet 28 = .ok (.iload_n 1, 1) := by decide +kernel
theorem dX5_cheapestSet_29 : decode cX5_cheapestSet 29 = .ok (.ifCond .eq 11, 3) := by decide +kernel
theorem dX5_cheapestSet_32 : decode cX5_cheapestSet 32 = .ok (.aload_n 0, 1) := by decide +kernel
theorem dX5_cheapestSet_33 : decode cX5_cheapestSet 33 = .ok (.iload_n 1, 1) := by decide +kernel
theorem dX5_cheapestSet_34 : decode cX5_cheapestSet 34 = .ok (.invokevirtual 55, 3) := by decide +kernel
theorem dX5_cheapestSet_37 : decode cX5_cheapestSet 37 = .ok (.ifCond .ne 5, 3) := by decide +kernel
theorem dX5_cheapestSet_40 : decode cX5_cheapestSet 40 = .ok (.iconst 0, 1) := by decide +kernel
theorem dX5_cheapestSet_41 : decode cX5_cheapestSet 41 = .ok (.ireturn, 1) := by decide +kernel
theorem dX5_cheapestSet_42 : decode cX5_cheapestSet 42 = .ok (.iload_n 1, 1) := by decide +kernel
theorem dX5_cheapestSet_43 : decode cX5_cheapestSet 43 = .ok (.istore_n 2, 1) := by decide +kernel
theorem dX5_cheapestSet_44 : decode cX5_cheapestSet 44 = .ok (.iconst 1, 1) := by decide +kernel
theorem dX5_cheapestSet_45 : decode cX5_cheapestSet 45 = .ok (.istore_n 3, 1) := by decide +kernel
theorem dX5_cheapestSet_46 : decode cX5_cheapestSet 46 = .ok (.iload_n 3, 1) := by decide +kernel
theorem dX5_cheapestSet_47 : decode cX5_cheapestSet 47 = .ok (.iload_n 1, 1) := by decide +kernel
theorem dX5_cheapestSet_48 : decode cX5_cheapestSet 48 = .ok (.if_icmp .ge 42, 3) := by decide +kernel
theorem dX5_cheapestSet_51 : decode cX5_cheapestSet 51 = .ok (.iload_n 3, 1) := by decide +kernel
theorem dX5_cheapestSet_52 : decode cX5_cheapestSet 52 = .ok (.bipush 64, 2) := by decide +kernel
theorem dX5_cheapestSet_54 : decode cX5_cheapestSet 54 = .ok (.if_icmp .ge 36, 3) := by decide +kernel
theorem dX5_cheapestSet_57 : decode cX5_cheapestSet 57 = .ok (.iload_n 3, 1) := by decide +kernel
theorem dX5_cheapestSet_58 : decode cX5_cheapestSet 58 = .ok (.iload_n 1, 1) := by decide +kernel
theorem dX5_cheapestSet_59 : decode cX5_cheapestSet 59 = .ok (.iconst (-1), 1) := by decide +kernel
theorem dX5_cheapestSet_60 : decode cX5_cheapestSet 60 = .ok (.ixor, 1) := by decide +kernel
theorem dX5_cheapestSet_61 : decode cX5_cheapestSet 61 = .ok (.iand, 1) := by decide +kernel
theorem dX5_cheapestSet_62 : decode cX5_cheapestSet 62 = .ok (.ifCond .ne 22, 3) := by decide +kernel
theorem dX5_cheapestSet_65 : decode cX5_cheapestSet 65 = .ok (.aload_n 0, 1) := by decide +kernel
theorem dX5_cheapestSet_66 : decode cX5_cheapestSet 66 = .ok (.iload_n 3, 1) := by decide +kernel
theorem dX5_cheapestSet_67 : decode cX5_cheapestSet 67 = .ok (.iload_n 2, 1) := by decide +kernel
theorem dX5_cheapestSet_68 : decode cX5_cheapestSet 68 = .ok (.invokevirtual 88, 3) := by decide +kernel
theorem dX5_cheapestSet_71 : decode cX5_cheapestSet 71 = .ok (.ifCond .eq 13, 3) := by decide +kernel
theorem dX5_cheapestSet_74 : decode cX5_cheapestSet 74 = .ok (.aload_n 0, 1) := by decide +kernel
theorem dX5_cheapestSet_75 : decode cX5_cheapestSet 75 = .ok (.iload_n 3, 1) := by decide +kernel
theorem dX5_cheapestSet_76 : decode cX5_cheapestSet 76 = .ok (.invokevirtual 55, 3) := by decide +kernel
theorem dX5_cheapestSet_79 : decode cX5_cheapestSet 79 = .ok (.ifCond .eq 5, 3) := by decide +kernel
theorem dX5_cheapestSet_82 : decode cX5_cheapestSet 82 = .ok (.iload_n 3, 1) := by decide +kernel
theorem dX5_cheapestSet_83 : decode cX5_cheapestSet 83 = .ok (.istore_n 2, 1) := by decide +kernel
theorem dX5_cheapestSet_84 : decode cX5_cheapestSet 84 = .ok (.iinc 3 1, 3) := by decide +kernel
theorem dX5_cheapestSet_87 : decode cX5_cheapestSet 87 = .ok (.goto (-41), 3) := by decide +kernel
theorem dX5_cheapestSet_90 : decode cX5_cheapestSet 90 = .ok (.iload_n 2, 1) := by decide +kernel
theorem dX5_cheapestSet_91 : decode cX5_cheapestSet 91 = .ok (.ireturn, 1) := by decide +kernel
theorem dX5_isBetter_0 : decode cX5_isBetter 0 = .ok (.aload_n 0, 1) := by decide +kernel
theorem dX5_isBetter_1 : decode cX5_isBetter 1 = .ok (.getfield 34, 3) := by decide +kernel
theorem dX5_isBetter_4 : decode cX5_isBetter 4 = .ok (.getfield 67, 3) := by decide +kernel
theorem dX5_isBetter_7 : decode cX5_isBetter 7 = .ok (.iload_n 1, 1) := by decide +kernel
theorem dX5_isBetter_8 : decode cX5_isBetter 8 = .ok (.invokevirtual 92, 3) := by decide +kernel
theorem dX5_isBetter_11 : decode cX5_isBetter 11 = .ok (.aload_n 0, 1) := by decide +kernel
theorem dX5_isBetter_12 : decode cX5_isBetter 12 = .ok (.getfield 34, 3) := by decide +kernel
theorem dX5_isBetter_15 : decode cX5_isBetter 15 = .ok (.getfield 67, 3) := by decide +kernel
theorem dX5_isBetter_18 : decode cX5_isBetter 18 = .ok (.iload_n 2, 1) := by decide +kernel
theorem dX5_isBetter_19 : decode cX5_isBetter 19 = .ok (.invokevirtual 92, 3) := by decide +kernel
theorem dX5_isBetter_22 : decode cX5_isBetter 22 = .ok (.isub, 1) := by decide +kernel
theorem dX5_isBetter_23 : decode cX5_isBetter 23 = .ok (.istore_n 3, 1) := by decide +kernel
theorem dX5_isBetter_24 : decode cX5_isBetter 24 = .ok (.iload_n 3, 1) := by decide +kernel
theorem dX5_isBetter_25 : decode cX5_isBetter 25 = .ok (.ifCond .eq 13, 3) := by decide +kernel
theorem dX5_isBetter_28 : decode cX5_isBetter 28 = .ok (.iload_n 3, 1) := by decide +kernel
theorem dX5_isBetter_29 : decode cX5_isBetter 29 = .ok (.ifCond .ge 7, 3) := by decide +kernel
theorem dX5_isBetter_32 : decode cX5_isBetter 32 = .ok (.iconst 1, 1) := by decide +kernel
theorem dX5_isBetter_33 : decode cX5_isBetter 33 = .ok (.goto 4, 3) := by decide +kernel
theorem dX5_isBetter_36 : decode cX5_isBetter 36 = .ok (.iconst 0, 1) := by decide +kernel
theorem dX5_isBetter_37 : decode cX5_isBetter 37 = .ok (.ireturn, 1) := by decide +kernel
theorem dX5_isBetter_38 : decode cX5_isBetter 38 = .ok (.iload_n 1, 1) := by decide +kernel
theorem dX5_isBetter_39 : decode cX5_isBetter 39 = .ok (.invokestatic 96, 3) := by decide +kernel
theorem dX5_isBetter_42 : decode cX5_isBetter 42 = .ok (.iload_n 2, 1) := by decide +kernel
theorem dX5_isBetter_43 : decode cX5_isBetter 43 = .ok (.invokestatic 96, 3) := by decide +kernel
theorem dX5_isBetter_46 : decode cX5_isBetter 46 = .ok (.isub, 1) := by decide +kernel
theorem dX5_isBetter_47 : decode cX5_isBetter 47 = .ok (.istore 4, 2) := by decide +kernel
theorem dX5_isBetter_49 : decode cX5_isBetter 49 = .ok (.iload 4, 2) := by decide +kernel
theorem dX5_isBetter_51 : decode cX5_isBetter 51 = .ok (.ifCond .eq 14, 3) := by decide +kernel
theorem dX5_isBetter_54 : decode cX5_isBetter 54 = .ok (.iload 4, 2) := by decide +kernel
theorem dX5_isBetter_56 : decode cX5_isBetter 56 = .ok (.ifCond .ge 7, 3) := by decide +kernel
theorem dX5_isBetter_59 : decode cX5_isBetter 59 = .ok (.iconst 1, 1) := by decide +kernel
theorem dX5_isBetter_60 : decode cX5_isBetter 60 = .ok (.goto 4, 3) := by decide +kernel
theorem dX5_isBetter_63 : decode cX5_isBetter 63 = .ok (.iconst 0, 1) := by decide +kernel
theorem dX5_isBetter_64 : decode cX5_isBetter 64 = .ok (.ireturn, 1) := by decide +kernel
theorem dX5_isBetter_65 : decode cX5_isBetter 65 = .ok (.iload_n 1, 1) := by decide +kernel
theorem dX5_isBetter_66 : decode cX5_isBetter 66 = .ok (.iload_n 2, 1) := by decide +kernel
theorem dX5_isBetter_67 : decode cX5_isBetter 67 = .ok (.ixor, 1) := by decide +kernel
theorem dX5_isBetter_68 : decode cX5_isBetter 68 = .ok (.istore 5, 2) := by decide +kernel
theorem dX5_isBetter_70 : decode cX5_isBetter 70 = .ok (.iload_n 1, 1) := by decide +kernel
theorem dX5_isBetter_71 : decode cX5_isBetter 71 = .ok (.iload 5, 2) := by decide +kernel
theorem dX5_isBetter_73 : decode cX5_isBetter 73 = .ok (.iand, 1) := by decide +kernel
theorem dX5_isBetter_74 : decode cX5_isBetter 74 = .ok (.iload 5, 2) := by decide +kernel
theorem dX5_isBetter_76 : decode cX5_isBetter 76 = .ok (.ineg, 1) := by decide +kernel
theorem dX5_isBetter_77 : decode cX5_isBetter 77 = .ok (.iand, 1) := by decide +kernel
theorem dX5_isBetter_78 : decode cX5_isBetter 78 = .ok (.ifCond .eq 7, 3) := by decide +kernel
theorem dX5_isBetter_81 : decode cX5_isBetter 81 = .ok (.iconst 1, 1) := by decide +kernel
theorem dX5_isBetter_82 : decode cX5_isBetter 82 = .ok (.goto 4, 3) := by decide +kernel
theorem dX5_isBetter_85 : decode cX5_isBetter 85 = .ok (.iconst 0, 1) := by decide +kernel
theorem dX5_isBetter_86 : decode cX5_isBetter 86 = .ok (.ireturn, 1) := by decide +kernel
theorem dX5_findValues_0 : decode cX5_findValues 0 = .ok (.aload_n 0, 1) := by decide +kernel
theorem dX5_findValues_1 : decode cX5_findValues 1 = .ok (.iload_n 1, 1) := by decide +kernel
theorem dX5_findValues_2 : decode cX5_findValues 2 = .ok (.invokevirtual 101, 3) := by decide +kernel
theorem dX5_findValues_5 : decode cX5_findValues 5 = .ok (.istore_n 2, 1) := by decide +kernel
theorem dX5_findValues_6 : decode cX5_findValues 6 = .ok (.aload_n 0, 1) := by decide +kernel
theorem dX5_findValues_7 : decode cX5_findValues 7 = .ok (.iconst (-1), 1) := by decide +kernel
theorem dX5_findValues_8 : decode cX5_findValues 8 = .ok (.invokevirtual 104, 3) := by decide +kernel
theorem dX5_findValues_11 : decode cX5_findValues 11 = .ok (.ifCond .eq 5, 3) := by decide +kernel
theorem dX5_findValues_14 : decode cX5_findValues 14 = .ok (.iconst 0, 1) := by decide +kernel
theorem dX5_findValues_15 : decode cX5_findValues 15 = .ok (.ireturn, 1) := by decide +kernel
theorem dX5_findValues_16 : decode cX5_findValues 16 = .ok (.iconst 0, 1) := by decide +kernel
theorem dX5_findValues_17 : decode cX5_findValues 17 = .ok (.istore_n 3, 1) := by decide +kernel
theorem dX5_findValues_18 : decode cX5_findValues 18 = .ok (.iconst 0, 1) := by decide +kernel
theorem dX5_findValues_19 : decode cX5_findValues 19 = .ok (.istore 4, 2) := by decide +kernel
theorem dX5_findValues_21 : decode cX5_findValues 21 = .ok (.iload 4, 2) := by decide +kernel
theorem dX5_findValues_23 : decode cX5_findValues 23 = .ok (.ldc 107, 2) := by decide +kernel
theorem dX5_findValues_25 : decode cX5_findValues 25 = .ok (.if_icmp .ge 68, 3) := by decide +kernel
theorem dX5_findValues_28 : decode cX5_findValues 28 = .ok (.iload_n 3, 1) := by decide +kernel
theorem dX5_findValues_29 : decode cX5_findValues 29 = .ok (.ifCond .lt 64, 3) := by decide +kernel
theorem dX5_findValues_32 : decode cX5_findValues 32 = .ok (.iload_n 3, 1) := by decide +kernel
theorem dX5_findValues_33 : decode cX5_findValues 33 = .ok (.iload_n 2, 1) := by decide +kernel
theorem dX5_findValues_34 : decode cX5_findValues 34 = .ok (.if_icmp .ge 59, 3) := by decide +kernel
theorem dX5_findValues_37 : decode cX5_findValues 37 = .ok (.iload_n 3, 1) := by decide +kernel
theorem dX5_findValues_38 : decode cX5_findValues 38 = .ok (.bipush 6, 2) := by decide +kernel
theorem dX5_findValues_40 : decode cX5_findValues 40 = .ok (.if_icmp .ge 53, 3) := by decide +kernel
theorem dX5_findValues_43 : decode cX5_findValues 43 = .ok (.aload_n 0, 1) := by decide +kernel
theorem dX5_findValues_44 : decode cX5_findValues 44 = .ok (.getfield 25, 3) := by decide +kernel
theorem dX5_findValues_47 : decode cX5_findValues 47 = .ok (.iload_n 3, 1) := by decide +kernel
theorem dX5_findValues_48 : decode cX5_findValues 48 = .ok (.iaload, 1) := by decide +kernel
theorem dX5_findValues_49 : decode cX5_findValues 49 = .ok (.istore 5, 2) := by decide +kernel
theorem dX5_findValues_51 : decode cX5_findValues 51 = .ok (.aload_n 0, 1) := by decide +kernel
theorem dX5_findValues_52 : decode cX5_findValues 52 = .ok (.iload 5, 2) := by decide +kernel
theorem dX5_findValues_54 : decode cX5_findValues 54 = .ok (.invokevirtual 108, 3) := by decide +kernel
theorem dX5_findValues_57 : decode cX5_findValues 57 = .ok (.ifCond .ne 9, 3) := by decide +kernel
theorem dX5_findValues_60 : decode cX5_findValues 60 = .ok (.iinc 3 (-1), 3) := by decide +kernel
theorem dX5_findValues_63 : decode cX5_findValues 63 = .ok (.goto 24, 3) := by decide +kernel
theorem dX5_findValues_66 : decode cX5_findValues 66 = .ok (.aload_n 0, 1) := by decide +kernel
theorem dX5_findValues_67 : decode cX5_findValues 67 = .ok (.iload_n 3, 1) := by decide +kernel
theorem dX5_findValues_68 : decode cX5_findValues 68 = .ok (.invokevirtual 104, 3) := by decide +kernel
theorem dX5_findValues_71 : decode cX5_findValues 71 = .ok (.ifCond .ne 16, 3) := by decide +kernel
theorem dX5_findValues_74 : decode cX5_findValues 74 = .ok (.iinc 3 1, 3) := by decide +kernel
theorem dX5_findValues_77 : decode cX5_findValues 77 = .ok (.iload_n 3, 1) := by decide +kernel
theorem dX5_findValues_78 : decode cX5_findValues 78 = .ok (.iload_n 2, 1) := by decide +kernel
theorem dX5_findValues_79 : decode cX5_findValues 79 = .ok (.if_icmp .ge 8, 3) := by decide +kernel
theorem dX5_findValues_82 : decode cX5_findValues 82 = .ok (.aload_n 0, 1) := by decide +kernel
theorem dX5_findValues_83 : decode cX5_findValues 83 = .ok (.iload_n 3, 1) := by decide +kernel
theorem dX5_findValues_84 : decode cX5_findValues 84 = .ok (.invokevirtual 111, 3) := by decide +kernel
theorem dX5_findValues_87 : decode cX5_findValues 87 = .ok (.iinc 4 1, 3) := by decide +kernel
theorem dX5_findValues_90 : decode cX5_findValues 90 = .ok (.goto (-69), 3) := by decide +kernel
theorem dX5_findValues_93 : decode cX5_findValues 93 = .ok (.iload_n 3, 1) := by decide +kernel
theorem dX5_findValues_94 : decode cX5_findValues 94 = .ok (.iload_n 2, 1) := by decide +kernel
theorem dX5_findValues_95 : decode cX5_findValues 95 = .ok (.if_icmp .ne 7, 3) := by decide +kernel
theorem dX5_findValues_98 : decode cX5_findValues 98 = .ok (.iconst 1, 1) := by decide +kernel
theorem dX5_findValues_99 : decode cX5_findValues 99 = .ok (.goto 4, 3) := by decide +kernel
theorem dX5_findValues_102 : decode cX5_findValues 102 = .ok (.iconst 0, 1) := by decide +kernel
theorem dX5_findValues_103 : decode cX5_findValues 103 = .ok (.ireturn, 1) := by decide +kernel
theorem dX5_prepareTrial_0 : decode cX5_prepareTrial 0 = .ok (.aload_n 0, 1) := by decide +kernel
theorem dX5_prepareTrial_1 : decode cX5_prepareTrial 1 = .ok (.getfield 15, 3) := by decide +kernel
theorem dX5_prepareTrial_4 : decode cX5_prepareTrial 4 = .ok (.iconst 0, 1) := by decide +kernel
theorem dX5_prepareTrial_5 : decode cX5_prepareTrial 5 = .ok (.aload_n 0, 1) := by decide +kernel
theorem dX5_prepareTrial_6 : decode cX5_prepareTrial 6 = .ok (.getfield 22, 3) := by decide +kernel
theorem dX5_prepareTrial_9 : decode cX5_prepareTrial 9 = .ok (.iconst 0, 1) := by decide +kernel
theorem dX5_prepareTrial_10 : decode cX5_prepareTrial 10 = .ok (.bipush 6, 2) := by decide +kernel
theorem dX5_prepareTrial_12 : decode cX5_prepareTrial 12 = .ok (.invokestatic 114, 3) := by decide +kernel
theorem dX5_prepareTrial_15 : decode cX5_prepareTrial 15 = .ok (.aload_n 0, 1) := by decide +kernel
theorem dX5_prepareTrial_16 : decode cX5_prepareTrial 16 = .ok (.getfield 28, 3) := by decide +kernel
theorem dX5_prepareTrial_19 : decode cX5_prepareTrial 19 = .ok (.iconst (-1), 1) := by decide +kernel
theorem dX5_prepareTrial_20 : decode cX5_prepareTrial 20 = .ok (.invokestatic 120, 3) := by decide +kernel
theorem dX5_prepareTrial_23 : decode cX5_prepareTrial 23 = .ok (.iconst 0, 1) := by decide +kernel
theorem dX5_prepareTrial_24 : decode cX5_prepareTrial 24 = .ok (.istore_n 2, 1) := by decide +kernel
theorem dX5_prepareTrial_25 : decode cX5_prepareTrial 25 = .ok (.iconst 0, 1) := by decide +kernel
theorem dX5_prepareTrial_26 : decode cX5_prepareTrial 26 = .ok (.istore_n 3, 1) := by decide +kernel
theorem dX5_prepareTrial_27 : decode cX5_prepareTrial 27 = .ok (.iload_n 3, 1) := by decide +kernel
theorem dX5_prepareTrial_28 : decode cX5_prepareTrial 28 = .ok (.bipush 6, 2) := by decide +kernel
theorem dX5_prepareTrial_30 : decode cX5_prepareTrial 30 = .ok (.if_icmp .ge 90, 3) := by decide +kernel
theorem dX5_prepareTrial_33 : decode cX5_prepareTrial 33 = .ok (.iload_n 1, 1) := by decide +kernel
theorem dX5_prepareTrial_34 : decode cX5_prepareTrial 34 = .ok (.iload_n 3, 1) := by decide +kernel
theorem dX5_prepareTrial_35 : decode cX5_prepareTrial 35 = .ok (.ishr, 1) := by decide +kernel
theorem dX5_prepareTrial_36 : decode cX5_prepareTrial 36 = .ok (.iconst 1, 1) := by decide +kernel
theorem dX5_prepareTrial_37 : decode cX5_prepareTrial 37 = .ok (.iand, 1) := by decide +kernel
theorem dX5_prepareTrial_38 : decode cX5_prepareTrial 38 = .ok (.ifCond .eq 76, 3) := by decide +kernel
theorem dX5_prepareTrial_41 : decode cX5_prepareTrial 41 = .ok (.iload_n 2, 1) := by decide +kernel
theorem dX5_prepareTrial_42 : decode cX5_prepareTrial 42 = .ok (.aload_n 0, 1) := by decide +kernel
theorem dX5_prepareTrial_43 : decode cX5_prepareTrial 43 = .ok (.getfield 25, 3) := by decide +kernel
theorem dX5_prepareTrial_46 : decode cX5_prepareTrial 46 = .ok (.arraylength, 1) := by decide +kernel
theorem dX5_prepareTrial_47 : decode cX5_prepareTrial 47 = .ok (.if_icmp .ge 67, 3) := by decide +kernel
theorem dX5_prepareTrial_50 : decode cX5_prepareTrial 50 = .ok (.aload_n 0, 1) := by decide +kernel
theorem dX5_prepareTrial_51 : decode cX5_prepareTrial 51 = .ok (.getfield 25, 3) := by decide +kernel
theorem dX5_prepareTrial_54 : decode cX5_prepareTrial 54 = .ok (.iload_n 2, 1) := by decide +kernel
theorem dX5_prepareTrial_55 : decode cX5_prepareTrial 55 = .ok (.iload_n 3, 1) := by decide +kernel
theorem dX5_prepareTrial_56 : decode cX5_prepareTrial 56 = .ok (.iastore, 1) := by decide +kernel
theorem dX5_prepareTrial_57 : decode cX5_prepareTrial 57 = .ok (.aload_n 0, 1) := by decide +kernel
theorem dX5_prepareTrial_58 : decode cX5_prepareTrial 58 = .ok (.getfield 22, 3) := by decide +kernel
theorem dX5_prepareTrial_61 : decode cX5_prepareTrial 61 = .ok (.iload_n 3, 1) := by decide +kernel
theorem dX5_prepareTrial_62 : decode cX5_prepareTrial 62 = .ok (.iconst (-1), 1) := by decide +kernel
theorem dX5_prepareTrial_63 : decode cX5_prepareTrial 63 = .ok (.iastore, 1) := by decide +kernel
theorem dX5_prepareTrial_64 : decode cX5_prepareTrial 64 = .ok (.iconst 0, 1) := by decide +kernel
theorem dX5_prepareTrial_65 : decode cX5_prepareTrial 65 = .ok (.istore 4, 2) := by decide +kernel
theorem dX5_prepareTrial_67 : decode cX5_prepareTrial 67 = .ok (.iload 4, 2) := by decide +kernel
theorem dX5_prepareTrial_69 : decode cX5_prepareTrial 69 = .ok (.bipush 12, 2) := by decide +kernel
theorem dX5_prepareTrial_71 : decode cX5_prepareTrial 71 = .ok (.if_icmp .ge 40, 3) := by decide +kernel
theorem dX5_prepareTrial_74 : decode cX5_prepareTrial 74 = .ok (.aload_n 0, 1) := by decide +kernel
theorem dX5_prepareTrial_75 : decode cX5_prepareTrial 75 = .ok (.getfield 34, 3) := by decide +kernel
theorem dX5_prepareTrial_78 : decode cX5_prepareTrial 78 = .ok (.getfield 67, 3) := by decide +kernel
theorem dX5_prepareTrial_81 : decode cX5_prepareTrial 81 = .ok (.getfield 126, 3) := by decide +kernel
theorem dX5_prepareTrial_84 : decode cX5_prepareTrial 84 = .ok (.iload 4, 2) := by decide +kernel
theorem dX5_prepareTrial_86 : decode cX5_prepareTrial 86 = .ok (.aaload, 1) := by decide +kernel
theorem dX5_prepareTrial_87 : decode cX5_prepareTrial 87 = .ok (.getfield 130, 3) := by decide +kernel
theorem dX5_prepareTrial_90 : decode cX5_prepareTrial 90 = .ok (.iload_n 3, 1) := by decide +kernel
theorem dX5_prepareTrial_91 : decode cX5_prepareTrial 91 = .ok (.ishr, 1) := by decide +kernel
theorem dX5_prepareTrial_92 : decode cX5_prepareTrial 92 = .ok (.iconst 1, 1) := by decide +kernel
theorem dX5_prepareTrial_93 : decode cX5_prepareTrial 93 = .ok (.iand, 1) := by decide +kernel
theorem dX5_prepareTrial_94 : decode cX5_prepareTrial 94 = .ok (.ifCond .eq 11, 3) := by decide +kernel
theorem dX5_prepareTrial_97 : decode cX5_prepareTrial 97 = .ok (.aload_n 0, 1) := by decide +kernel
theorem dX5_prepareTrial_98 : decode cX5_prepareTrial 98 = .ok (.getfield 28, 3) := by decide +kernel
theorem dX5_prepareTrial_101 : decode cX5_prepareTrial 101 = .ok (.iload 4, 2) := by decide +kernel
theorem dX5_prepareTrial_103 : decode cX5_prepareTrial 103 = .ok (.iload_n 2, 1) := by decide +kernel
theorem dX5_prepareTrial_104 : decode cX5_prepareTrial 104 = .ok (.iastore, 1) := by decide +kernel
theorem dX5_prepareTrial_105 : decode cX5_prepareTrial 105 = .ok (.iinc 4 1, 3) := by decide +kernel
theorem dX5_prepareTrial_108 : decode cX5_prepareTrial 108 = .ok (.goto (-41), 3) := by decide +kernel
theorem dX5_prepareTrial_111 : decode cX5_prepareTrial 111 = .ok (.iinc 2 1, 3) := by decide +kernel
theorem dX5_prepareTrial_114 : decode cX5_prepareTrial 114 = .ok (.iinc 3 1, 3) := by decide +kernel
theorem dX5_prepareTrial_117 : decode cX5_prepareTrial 117 = .ok (.goto (-90), 3) := by decide +kernel
theorem dX5_prepareTrial_120 : decode cX5_prepareTrial 120 = .ok (.iload_n 2, 1) := by decide +kernel
theorem dX5_prepareTrial_121 : decode cX5_prepareTrial 121 = .ok (.ireturn, 1) := by decide +kernel
theorem dX5_holdsRipe_0 : decode cX5_holdsRipe 0 = .ok (.iconst 0, 1) := by decide +kernel
theorem dX5_holdsRipe_1 : decode cX5_holdsRipe 1 = .ok (.istore_n 2, 1) := by decide +kernel
theorem dX5_holdsRipe_2 : decode cX5_holdsRipe 2 = .ok (.iload_n 2, 1) := by decide +kernel
theorem dX5_holdsRipe_3 : decode cX5_holdsRipe 3 = .ok (.aload_n 0, 1) := by decide +kernel
theorem dX5_holdsRipe_4 : decode cX5_holdsRipe 4 = .ok (.getfield 34, 3) := by decide +kernel
theorem dX5_holdsRipe_7 : decode cX5_holdsRipe 7 = .ok (.getfield 67, 3) := by decide +kernel
theorem dX5_holdsRipe_10 : decode cX5_holdsRipe 10 = .ok (.getfield 135, 3) := by decide +kernel
theorem dX5_holdsRipe_13 : decode cX5_holdsRipe 13 = .ok (.if_icmp .ge 49, 3) := by decide +kernel
theorem dX5_holdsRipe_16 : decode cX5_holdsRipe 16 = .ok (.iload_n 2, 1) := by decide +kernel
theorem dX5_holdsRipe_17 : decode cX5_holdsRipe 17 = .ok (.bipush 12, 2) := by decide +kernel
theorem dX5_holdsRipe_19 : decode cX5_holdsRipe 19 = .ok (.if_icmp .ge 43, 3) := by decide +kernel
theorem dX5_holdsRipe_22 : decode cX5_holdsRipe 22 = .ok (.aload_n 0, 1) := by decide +kernel
theorem dX5_holdsRipe_23 : decode cX5_holdsRipe 23 = .ok (.getfield 28, 3) := by decide +kernel
theorem dX5_holdsRipe_26 : decode cX5_holdsRipe 26 = .ok (.iload_n 2, 1) := by decide +kernel
theorem dX5_holdsRipe_27 : decode cX5_holdsRipe 27 = .ok (.iaload, 1) := by decide +kernel
theorem dX5_holdsRipe_28 : decode cX5_holdsRipe 28 = .ok (.iload_n 1, 1) := by decide +kernel
theorem dX5_holdsRipe_29 : decode cX5_holdsRipe 29 = .ok (.if_icmp .ne 27, 3) := by decide +kernel
theorem dX5_holdsRipe_32 : decode cX5_holdsRipe 32 = .ok (.aload_n 0, 1) := by decide +kernel
theorem dX5_holdsRipe_33 : decode cX5_holdsRipe 33 = .ok (.getfield 34, 3) := by decide +kernel
theorem dX5_holdsRipe_36 : decode cX5_holdsRipe 36 = .ok (.getfield 67, 3) := by decide +kernel
theorem dX5_holdsRipe_39 : decode cX5_holdsRipe 39 = .ok (.getfield 126, 3) := by decide +kernel
theorem dX5_holdsRipe_42 : decode cX5_holdsRipe 42 = .ok (.iload_n 2, 1) := by decide +kernel
theorem dX5_holdsRipe_43 : decode cX5_holdsRipe 43 = .ok (.aaload, 1) := by decide +kernel
theorem dX5_holdsRipe_44 : decode cX5_holdsRipe 44 = .ok (.aload_n 0, 1) := by decide +kernel
theorem dX5_holdsRipe_45 : decode cX5_holdsRipe 45 = .ok (.getfield 22, 3) := by decide +kernel
theorem dX5_holdsRipe_48 : decode cX5_holdsRipe 48 = .ok (.invokevirtual 138, 3) := by decide +kernel
theorem dX5_holdsRipe_51 : decode cX5_holdsRipe 51 = .ok (.ifCond .eq 5, 3) := by decide +kernel
theorem dX5_holdsRipe_54 : decode cX5_holdsRipe 54 = .ok (.iconst 1, 1) := by decide +kernel
theorem dX5_holdsRipe_55 : decode cX5_holdsRipe 55 = .ok (.ireturn, 1) := by decide +kernel
theorem dX5_holdsRipe_56 : decode cX5_holdsRipe 56 = .ok (.iinc 2 1, 3) := by decide +kernel
theorem dX5_holdsRipe_59 : decode cX5_holdsRipe 59 = .ok (.goto (-57), 3) := by decide +kernel
theorem dX5_holdsRipe_62 : decode cX5_holdsRipe 62 = .ok (.iconst 0, 1) := by decide +kernel
theorem dX5_holdsRipe_63 : decode cX5_holdsRipe 63 = .ok (.ireturn, 1) := by decide +kernel
theorem dX5_startAt_0 : decode cX5_startAt 0 = .ok (.iload_n 1, 1) := by decide +kernel
theorem dX5_startAt_1 : decode cX5_startAt 1 = .ok (.ifCond .lt 39, 3) := by decide +kernel
theorem dX5_startAt_4 : decode cX5_startAt 4 = .ok (.iload_n 1, 1) := by decide +kernel
theorem dX5_startAt_5 : decode cX5_startAt 5 = .ok (.aload_n 0, 1) := by decide +kernel
theorem dX5_startAt_6 : decode cX5_startAt 6 = .ok (.getfield 25, 3) := by decide +kernel
theorem dX5_startAt_9 : decode cX5_startAt 9 = .ok (.arraylength, 1) := by decide +kernel
theorem dX5_startAt_10 : decode cX5_startAt 10 = .ok (.if_icmp .ge 30, 3) := by decide +kernel
theorem dX5_startAt_13 : decode cX5_startAt 13 = .ok (.aload_n 0, 1) := by decide +kernel
theorem dX5_startAt_14 : decode cX5_startAt 14 = .ok (.getfield 25, 3) := by decide +kernel
theorem dX5_startAt_17 : decode cX5_startAt 17 = .ok (.iload_n 1, 1) := by decide +kernel
theorem dX5_startAt_18 : decode cX5_startAt 18 = .ok (.iaload, 1) := by decide +kernel
theorem dX5_startAt_19 : decode cX5_startAt 19 = .ok (.istore_n 2, 1) := by decide +kernel
theorem dX5_startAt_20 : decode cX5_startAt 20 = .ok (.iload_n 2, 1) := by decide +kernel
theorem dX5_startAt_21 : decode cX5_startAt 21 = .ok (.ifCond .lt 19, 3) := by decide +kernel
theorem dX5_startAt_24 : decode cX5_startAt 24 = .ok (.iload_n 2, 1) := by decide +kernel
theorem dX5_startAt_25 : decode cX5_startAt 25 = .ok (.aload_n 0, 1) := by decide +kernel
theorem dX5_startAt_26 : decode cX5_startAt 26 = .ok (.getfield 22, 3) := by decide +kernel
theorem dX5_startAt_29 : decode cX5_startAt 29 = .ok (.arraylength, 1) := by decide +kernel
theorem dX5_startAt_30 : decode cX5_startAt 30 = .ok (.if_icmp .ge 10, 3) := by decide +kernel
theorem dX5_startAt_33 : decode cX5_startAt 33 = .ok (.aload_n 0, 1) := by decide +kernel
theorem dX5_startAt_34 : decode cX5_startAt 34 = .ok (.getfield 22, 3) := by decide +kernel
theorem dX5_startAt_37 : decode cX5_startAt 37 = .ok (.iload_n 2, 1) := by decide +kernel
theorem dX5_startAt_38 : decode cX5_startAt 38 = .ok (.iconst (-1), 1) := by decide +kernel
theorem dX5_startAt_39 : decode cX5_startAt 39 = .ok (.iastore, 1) := by decide +kernel
theorem dX5_startAt_40 : decode cX5_startAt 40 = .ok (.return_, 1) := by decide +kernel
theorem dX5_raise_0 : decode cX5_raise 0 = .ok (.iload_n 1, 1) := by decide +kernel
theorem dX5_raise_1 : decode cX5_raise 1 = .ok (.ifCond .lt 32, 3) := by decide +kernel
theorem dX5_raise_4 : decode cX5_raise 4 = .ok (.iload_n 1, 1) := by decide +kernel
theorem dX5_raise_5 : decode cX5_raise 5 = .ok (.aload_n 0, 1) := by decide +kernel
theorem dX5_raise_6 : decode cX5_raise 6 = .ok (.getfield 22, 3) := by decide +kernel
theorem dX5_raise_9 : decode cX5_raise 9 = .ok (.arraylength, 1) := by decide +kernel
theorem dX5_raise_10 : decode cX5_raise 10 = .ok (.if_icmp .ge 23, 3) := by decide +kernel
theorem dX5_raise_13 : decode cX5_raise 13 = .ok (.aload_n 0, 1) := by decide +kernel
theorem dX5_raise_14 : decode cX5_raise 14 = .ok (.getfield 22, 3) := by decide +kernel
theorem dX5_raise_17 : decode cX5_raise 17 = .ok (.iload_n 1, 1) := by decide +kernel
theorem dX5_raise_18 : decode cX5_raise 18 = .ok (.iaload, 1) := by decide +kernel
theorem dX5_raise_19 : decode cX5_raise 19 = .ok (.aload_n 0, 1) := by decide +kernel
theorem dX5_raise_20 : decode cX5_raise 20 = .ok (.getfield 34, 3) := by decide +kernel
theorem dX5_raise_23 : decode cX5_raise 23 = .ok (.getfield 67, 3) := by decide +kernel
theorem dX5_raise_26 : decode cX5_raise 26 = .ok (.iload_n 1, 1) := by decide +kernel
theorem dX5_raise_27 : decode cX5_raise 27 = .ok (.invokevirtual 142, 3) := by decide +kernel
theorem dX5_raise_30 : decode cX5_raise 30 = .ok (.if_icmp .lt 5, 3) := by decide +kernel
theorem dX5_raise_33 : decode cX5_raise 33 = .ok (.iconst 0, 1) := by decide +kernel
theorem dX5_raise_34 : decode cX5_raise 34 = .ok (.ireturn, 1) := by decide +kernel
theorem dX5_raise_35 : decode cX5_raise 35 = .ok (.aload_n 0, 1) := by decide +kernel
theorem dX5_raise_36 : decode cX5_raise 36 = .ok (.getfield 22, 3) := by decide +kernel
theorem dX5_raise_39 : decode cX5_raise 39 = .ok (.iload_n 1, 1) := by decide +kernel
theorem dX5_raise_40 : decode cX5_raise 40 = .ok (.dup2, 1) := by decide +kernel
theorem dX5_raise_41 : decode cX5_raise 41 = .ok (.iaload, 1) := by decide +kernel
theorem dX5_raise_42 : decode cX5_raise 42 = .ok (.iconst 1, 1) := by decide +kernel
theorem dX5_raise_43 : decode cX5_raise 43 = .ok (.iadd, 1) := by decide +kernel
theorem dX5_raise_44 : decode cX5_raise 44 = .ok (.iastore, 1) := by decide +kernel
theorem dX5_raise_45 : decode cX5_raise 45 = .ok (.iconst 1, 1) := by decide +kernel
theorem dX5_raise_46 : decode cX5_raise 46 = .ok (.ireturn, 1) := by decide +kernel
theorem dX5_gatherGivers_0 : decode cX5_gatherGivers 0 = .ok (.iconst 0, 1) := by decide +kernel
theorem dX5_gatherGivers_1 : decode cX5_gatherGivers 1 = .ok (.istore 4, 2) := by decide +kernel
theorem dX5_gatherGivers_3 : decode cX5_gatherGivers 3 = .ok (.bipush 7, 2) := by decide +kernel
theorem dX5_gatherGivers_5 : decode cX5_gatherGivers 5 = .ok (.istore 5, 2) := by decide +kernel
theorem dX5_gatherGivers_7 : decode cX5_gatherGivers 7 = .ok (.iconst 0, 1) := by decide +kernel
theorem dX5_gatherGivers_8 : decode cX5_gatherGivers 8 = .ok (.istore 6, 2) := by decide +kernel
theorem dX5_gatherGivers_10 : decode cX5_gatherGivers 10 = .ok (.iload 6, 2) := by decide +kernel
theorem dX5_gatherGivers_12 : decode cX5_gatherGivers 12 = .ok (.aload_n 0, 1) := by decide +kernel
theorem dX5_gatherGivers_13 : decode cX5_gatherGivers 13 = .ok (.getfield 34, 3) := by decide +kernel
theorem dX5_gatherGivers_16 : decode cX5_gatherGivers 16 = .ok (.getfield 145, 3) := by decide +kernel
theorem dX5_gatherGivers_19 : decode cX5_gatherGivers 19 = .ok (.if_icmp .ge 91, 3) := by decide +kernel
theorem dX5_gatherGivers_22 : decode cX5_gatherGivers 22 = .ok (.iload 6, 2) := by decide +kernel
theorem dX5_gatherGivers_24 : decode cX5_gatherGivers 24 = .ok (.aload_n 0, 1) := by decide +kernel
theorem dX5_gatherGivers_25 : decode cX5_gatherGivers 25 = .ok (.getfield 31, 3) := by decide +kernel
theorem dX5_gatherGivers_28 : decode cX5_gatherGivers 28 = .ok (.arraylength, 1) := by decide +kernel
theorem dX5_gatherGivers_29 : decode cX5_gatherGivers 29 = .ok (.if_icmp .ge 81, 3) := by decide +kernel
theorem dX5_gatherGivers_32 : decode cX5_gatherGivers 32 = .ok (.iload 6, 2) := by decide +kernel
theorem dX5_gatherGivers_34 : decode cX5_gatherGivers 34 = .ok (.iload_n 1, 1) := by decide +kernel
theorem dX5_gatherGivers_35 : decode cX5_gatherGivers 35 = .ok (.if_icmp .eq 69, 3) := by decide +kernel
theorem dX5_gatherGivers_38 : decode cX5_gatherGivers 38 = .ok (.aload_n 0, 1) := by decide +kernel
theorem dX5_gatherGivers_39 : decode cX5_gatherGivers 39 = .ok (.iload 6, 2) := by decide +kernel
theorem dX5_gatherGivers_41 : decode cX5_gatherGivers 41 = .ok (.iload_n 2, 1) := by decide +kernel
theorem dX5_gatherGivers_42 : decode cX5_gatherGivers 42 = .ok (.iload_n 3, 1) := by decide +kernel
theorem dX5_gatherGivers_43 : decode cX5_gatherGivers 43 = .ok (.invokevirtual 148, 3) := by decide +kernel
theorem dX5_gatherGivers_46 : decode cX5_gatherGivers 46 = .ok (.ifCond .ne 6, 3) := by decide +kernel
theorem dX5_gatherGivers_49 : decode cX5_gatherGivers 49 = .ok (.goto 55, 3) := by decide +kernel
theorem dX5_gatherGivers_52 : decode cX5_gatherGivers 52 = .ok (.aload_n 0, 1) := by decide +kernel
theorem dX5_gatherGivers_53 : decode cX5_gatherGivers 53 = .ok (.iload_n 2, 1) := by decide +kernel
theorem dX5_gatherGivers_54 : decode cX5_gatherGivers 54 = .ok (.iconst (-1), 1) := by decide +kernel
theorem dX5_gatherGivers_55 : decode cX5_gatherGivers 55 = .ok (.ixor, 1) := by decide +kernel
theorem dX5_gatherGivers_56 : decode cX5_gatherGivers 56 = .ok (.invokevirtual 152, 3) := by decide +kernel
theorem dX5_gatherGivers_59 : decode cX5_gatherGivers 59 = .ok (.istore 7, 2) := by decide +kernel
theorem dX5_gatherGivers_61 : decode cX5_gatherGivers 61 = .ok (.iload 7, 2) := by decide +kernel
theorem dX5_gatherGivers_63 : decode cX5_gatherGivers 63 = .ok (.iload 5, 2) := by decide +kernel
theorem dX5_gatherGivers_65 : decode cX5_gatherGivers 65 = .ok (.if_icmp .ge 10, 3) := by decide +kernel
theorem dX5_gatherGivers_68 : decode cX5_gatherGivers 68 = .ok (.iload 7, 2) := by decide +kernel
theorem dX5_gatherGivers_70 : decode cX5_gatherGivers 70 = .ok (.istore 5, 2) := by decide +kernel
theorem dX5_gatherGivers_72 : decode cX5_gatherGivers 72 = .ok (.iconst 0, 1) := by decide +kernel
theorem dX5_gatherGivers_73 : decode cX5_gatherGivers 73 = .ok (.istore 4, 2) := by decide +kernel
theorem dX5_gatherGivers_75 : decode cX5_gatherGivers 75 = .ok (.iload 7, 2) := by decide +kernel
theorem dX5_gatherGivers_77 : decode cX5_gatherGivers 77 = .ok (.iload 5, 2) := by decide +kernel
theorem dX5_gatherGivers_79 : decode cX5_gatherGivers 79 = .ok (.if_icmp .ne 25, 3) := by decide +kernel
theorem dX5_gatherGivers_82 : decode cX5_gatherGivers 82 = .ok (.iload 4, 2) := by decide +kernel
theorem dX5_gatherGivers_84 : decode cX5_gatherGivers 84 = .ok (.aload_n 0, 1) := by decide +kernel
theorem dX5_gatherGivers_85 : decode cX5_gatherGivers 85 = .ok (.getfield 31, 3) := by decide +kernel
theorem dX5_gatherGivers_88 : decode cX5_gatherGivers 88 = .ok (.arraylength, 1) := by decide +kernel
theorem dX5_gatherGivers_89 : decode cX5_gatherGivers 89 = .ok (.if_icmp .ge 15, 3) := by decide +kernel
theorem dX5_gatherGivers_92 : decode cX5_gatherGivers 92 = .ok (.aload_n 0, 1) := by decide +kernel
theorem dX5_gatherGivers_93 : decode cX5_gatherGivers 93 = .ok (.getfield 31, 3) := by decide +kernel
theorem dX5_gatherGivers_96 : decode cX5_gatherGivers 96 = .ok (.iload 4, 2) := by decide +kernel
theorem dX5_gatherGivers_98 : decode cX5_gatherGivers 98 = .ok (.iload 6, 2) := by decide +kernel
theorem dX5_gatherGivers_100 : decode cX5_gatherGivers 100 = .ok (.iastore, 1) := by decide +kernel
theorem dX5_gatherGivers_101 : decode cX5_gatherGivers 101 = .ok (.iinc 4 1, 3) := by decide +kernel
theorem dX5_gatherGivers_104 : decode cX5_gatherGivers 104 = .ok (.iinc 6 1, 3) := by decide +kernel
theorem dX5_gatherGivers_107 : decode cX5_gatherGivers 107 = .ok (.goto (-97), 3) := by decide +kernel
theorem dX5_gatherGivers_110 : decode cX5_gatherGivers 110 = .ok (.iload 4, 2) := by decide +kernel
theorem dX5_gatherGivers_112 : decode cX5_gatherGivers 112 = .ok (.ireturn, 1) := by decide +kernel
theorem dX5_canGive_0 : decode cX5_canGive 0 = .ok (.aload_n 0, 1) := by decide +kernel
theorem dX5_canGive_1 : decode cX5_canGive 1 = .ok (.getfield 34, 3) := by decide +kernel
theorem dX5_canGive_4 : decode cX5_canGive 4 = .ok (.iload_n 1, 1) := by decide +kernel
theorem dX5_canGive_5 : decode cX5_canGive 5 = .ok (.aload_n 0, 1) := by decide +kernel
theorem dX5_canGive_6 : decode cX5_canGive 6 = .ok (.getfield 34, 3) := by decide +kernel
theorem dX5_canGive_9 : decode cX5_canGive 9 = .ok (.getfield 38, 3) := by decide +kernel
theorem dX5_canGive_12 : decode cX5_canGive 12 = .ok (.invokevirtual 155, 3) := by decide +kernel
theorem dX5_canGive_15 : decode cX5_canGive 15 = .ok (.ifCond .ne 5, 3) := by decide +kernel
theorem dX5_canGive_18 : decode cX5_canGive 18 = .ok (.iconst 0, 1) := by decide +kernel
theorem dX5_canGive_19 : decode cX5_canGive 19 = .ok (.ireturn, 1) := by decide +kernel
theorem dX5_canGive_20 : decode cX5_canGive 20 = .ok (.aload_n 0, 1) := by decide +kernel
theorem dX5_canGive_21 : decode cX5_canGive 21 = .ok (.getfield 34, 3) := by decide +kernel
theorem dX5_canGive_24 : decode cX5_canGive 24 = .ok (.iload_n 1, 1) := by decide +kernel
theorem dX5_canGive_25 : decode cX5_canGive 25 = .ok (.aload_n 0, 1) := by decide +kernel
theorem dX5_canGive_26 : decode cX5_canGive 26 = .ok (.getfield 34, 3) := by decide +kernel
theorem dX5_canGive_29 : decode cX5_canGive 29 = .ok (.getfield 38, 3) := by decide +kernel
theorem dX5_canGive_32 : decode cX5_canGive 32 = .ok (.iconst 0, 1) := by decide +kernel
theorem dX5_canGive_33 : decode cX5_canGive 33 = .ok (.aload_n 0, 1) := by decide +kernel
theorem dX5_canGive_34 : decode cX5_canGive 34 = .ok (.getfield 19, 3) := by decide +kernel
theorem dX5_canGive_37 : decode cX5_canGive 37 = .ok (.invokevirtual 43, 3) := by decide +kernel
theorem dX5_canGive_40 : decode cX5_canGive 40 = .ok (.aload_n 0, 1) := by decide +kernel
theorem dX5_canGive_41 : decode cX5_canGive 41 = .ok (.iload_n 2, 1) := by decide +kernel
theorem dX5_canGive_42 : decode cX5_canGive 42 = .ok (.invokevirtual 158, 3) := by decide +kernel
theorem dX5_canGive_45 : decode cX5_canGive 45 = .ok (.aload_n 0, 1) := by decide +kernel
theorem dX5_canGive_46 : decode cX5_canGive 46 = .ok (.getfield 34, 3) := by decide +kernel
theorem dX5_canGive_49 : decode cX5_canGive 49 = .ok (.getfield 67, 3) := by decide +kernel
theorem dX5_canGive_52 : decode cX5_canGive 52 = .ok (.aload_n 0, 1) := by decide +kernel
theorem dX5_canGive_53 : decode cX5_canGive 53 = .ok (.getfield 19, 3) := by decide +kernel
theorem dX5_canGive_56 : decode cX5_canGive 56 = .ok (.invokevirtual 71, 3) := by decide +kernel
theorem dX5_canGive_59 : decode cX5_canGive 59 = .ok (.iload_n 3, 1) := by decide +kernel
theorem dX5_canGive_60 : decode cX5_canGive 60 = .ok (.iand, 1) := by decide +kernel
theorem dX5_canGive_61 : decode cX5_canGive 61 = .ok (.ifCond .ne 45, 3) := by decide +kernel
theorem dX5_canGive_64 : decode cX5_canGive 64 = .ok (.aload_n 0, 1) := by decide +kernel
theorem dX5_canGive_65 : decode cX5_canGive 65 = .ok (.getfield 34, 3) := by decide +kernel
theorem dX5_canGive_68 : decode cX5_canGive 68 = .ok (.getfield 67, 3) := by decide +kernel
theorem dX5_canGive_71 : decode cX5_canGive 71 = .ok (.aload_n 0, 1) := by decide +kernel
theorem dX5_canGive_72 : decode cX5_canGive 72 = .ok (.getfield 19, 3) := by decide +kernel
theorem dX5_canGive_75 : decode cX5_canGive 75 = .ok (.invokevirtual 161, 3) := by decide +kernel
theorem dX5_canGive_78 : decode cX5_canGive 78 = .ok (.bipush (-2), 2) := by decide +kernel
theorem dX5_canGive_80 : decode cX5_canGive 80 = .ok (.if_icmp .ne 26, 3) := by decide +kernel
theorem dX5_canGive_83 : decode cX5_canGive 83 = .ok (.aload_n 0, 1) := by decide +kernel
theorem dX5_canGive_84 : decode cX5_canGive 84 = .ok (.getfield 34, 3) := by decide +kernel
theorem dX5_canGive_87 : decode cX5_canGive 87 = .ok (.getfield 67, 3) := by decide +kernel
theorem dX5_canGive_90 : decode cX5_canGive 90 = .ok (.aload_n 0, 1) := by decide +kernel
theorem dX5_canGive_91 : decode cX5_canGive 91 = .ok (.getfield 22, 3) := by decide +kernel
theorem dX5_canGive_94 : decode cX5_canGive 94 = .ok (.invokevirtual 161, 3) := by decide +kernel
theorem dX5_canGive_97 : decode cX5_canGive 97 = .ok (.bipush (-2), 2) := by decide +kernel
theorem dX5_canGive_99 : decode cX5_canGive 99 = .ok (.if_icmp .ne 7, 3) := by decide +kernel
theorem dX5_canGive_102 : decode cX5_canGive 102 = .ok (.iconst 1, 1) := by decide +kernel
theorem dX5_canGive_103 : decode cX5_canGive 103 = .ok (.goto 4, 3) := by decide +kernel
theorem dX5_canGive_106 : decode cX5_canGive 106 = .ok (.iconst 0, 1) := by decide +kernel
theorem dX5_canGive_107 : decode cX5_canGive 107 = .ok (.ireturn, 1) := by decide +kernel
theorem dX5_takeFrom_0 : decode cX5_takeFrom 0 = .ok (.aload_n 0, 1) := by decide +kernel
theorem dX5_takeFrom_1 : decode cX5_takeFrom 1 = .ok (.getfield 34, 3) := by decide +kernel
theorem dX5_takeFrom_4 : decode cX5_takeFrom 4 = .ok (.iload_n 1, 1) := by decide +kernel
theorem dX5_takeFrom_5 : decode cX5_takeFrom 5 = .ok (.aload_n 0, 1) := by decide +kernel
theorem dX5_takeFrom_6 : decode cX5_takeFrom 6 = .ok (.getfield 34, 3) := by decide +kernel
theorem dX5_takeFrom_9 : decode cX5_takeFrom 9 = .ok (.getfield 38, 3) := by decide +kernel
theorem dX5_takeFrom_12 : decode cX5_takeFrom 12 = .ok (.iconst 0, 1) := by decide +kernel
theorem dX5_takeFrom_13 : decode cX5_takeFrom 13 = .ok (.aload_n 0, 1) := by decide +kernel
theorem dX5_takeFrom_14 : decode cX5_takeFrom 14 = .ok (.getfield 19, 3) := by decide +kernel
theorem dX5_takeFrom_17 : decode cX5_takeFrom 17 = .ok (.invokevirtual 43, 3) := by decide +kernel
theorem dX5_takeFrom_20 : decode cX5_takeFrom 20 = .ok (.aload_n 0, 1) := by decide +kernel
theorem dX5_takeFrom_21 : decode cX5_takeFrom 21 = .ok (.iload_n 2, 1) := by decide +kernel
theorem dX5_takeFrom_22 : decode cX5_takeFrom 22 = .ok (.invokevirtual 158, 3) := by decide +kernel
theorem dX5_takeFrom_25 : decode cX5_takeFrom 25 = .ok (.return_, 1) := by decide +kernel
theorem dX5_putTheirs_0 : decode cX5_putTheirs 0 = .ok (.iconst 0, 1) := by decide +kernel
theorem dX5_putTheirs_1 : decode cX5_putTheirs 1 = .ok (.istore_n 2, 1) := by decide +kernel
theorem dX5_putTheirs_2 : decode cX5_putTheirs 2 = .ok (.iload_n 2, 1) := by decide +kernel
theorem dX5_putTheirs_3 : decode cX5_putTheirs 3 = .ok (.bipush 6, 2) := by decide +kernel
theorem dX5_putTheirs_5 : decode cX5_putTheirs 5 = .ok (.if_icmp .ge 38, 3) := by decide +kernel
theorem dX5_putTheirs_8 : decode cX5_putTheirs 8 = .ok (.aload_n 0, 1) := by decide +kernel
theorem dX5_putTheirs_9 : decode cX5_putTheirs 9 = .ok (.getfield 22, 3) := by decide +kernel
theorem dX5_putTheirs_12 : decode cX5_putTheirs 12 = .ok (.iload_n 2, 1) := by decide +kernel
theorem dX5_putTheirs_13 : decode cX5_putTheirs 13 = .ok (.iload_n 1, 1) := by decide +kernel
theorem dX5_putTheirs_14 : decode cX5_putTheirs 14 = .ok (.iload_n 2, 1) := by decide +kernel
theorem dX5_putTheirs_15 : decode cX5_putTheirs 15 = .ok (.ishr, 1) := by decide +kernel
theorem dX5_putTheirs_16 : decode cX5_putTheirs 16 = .ok (.iconst 1, 1) := by decide +kernel
theorem dX5_putTheirs_17 : decode cX5_putTheirs 17 = .ok (.iand, 1) := by decide +kernel
theorem dX5_putTheirs_18 : decode cX5_putTheirs 18 = .ok (.ifCond .eq 12, 3) := by decide +kernel
theorem dX5_putTheirs_21 : decode cX5_putTheirs 21 = .ok (.aload_n 0, 1) := by decide +kernel
theorem dX5_putTheirs_22 : decode cX5_putTheirs 22 = .ok (.getfield 19, 3) := by decide +kernel
theorem dX5_putTheirs_25 : decode cX5_putTheirs 25 = .ok (.iload_n 2, 1) := by decide +kernel
theorem dX5_putTheirs_26 : decode cX5_putTheirs 26 = .ok (.iaload, 1) := by decide +kernel
theorem dX5_putTheirs_27 : decode cX5_putTheirs 27 = .ok (.goto 9, 3) := by decide +kernel
theorem dX5_putTheirs_30 : decode cX5_putTheirs 30 = .ok (.aload_n 0, 1) := by decide +kernel
theorem dX5_putTheirs_31 : decode cX5_putTheirs 31 = .ok (.getfield 15, 3) := by decide +kernel
theorem dX5_putTheirs_34 : decode cX5_putTheirs 34 = .ok (.iload_n 2, 1) := by decide +kernel
theorem dX5_putTheirs_35 : decode cX5_putTheirs 35 = .ok (.iaload, 1) := by decide +kernel
theorem dX5_putTheirs_36 : decode cX5_putTheirs 36 = .ok (.iastore, 1) := by decide +kernel
theorem dX5_putTheirs_37 : decode cX5_putTheirs 37 = .ok (.iinc 2 1, 3) := by decide +kernel
theorem dX5_putTheirs_40 : decode cX5_putTheirs 40 = .ok (.goto (-38), 3) := by decide +kernel
theorem dX5_putTheirs_43 : decode cX5_putTheirs 43 = .ok (.return_, 1) := by decide +kernel
theorem dX5_countUnlike_0 : decode cX5_countUnlike 0 = .ok (.iconst 0, 1) := by decide +kernel
theorem dX5_countUnlike_1 : decode cX5_countUnlike 1 = .ok (.istore_n 2, 1) := by decide +kernel
theorem dX5_countUnlike_2 : decode cX5_countUnlike 2 = .ok (.iconst 0, 1) := by decide +kernel
theorem dX5_countUnlike_3 : decode cX5_countUnlike 3 = .ok (.istore_n 3, 1) := by decide +kernel
theorem dX5_countUnlike_4 : decode cX5_countUnlike 4 = .ok (.iload_n 3, 1) := by decide +kernel
theorem dX5_countUnlike_5 : decode cX5_countUnlike 5 = .ok (.aload_n 0, 1) := by decide +kernel
theorem dX5_countUnlike_6 : decode cX5_countUnlike 6 = .ok (.getfield 34, 3) := by decide +kernel
theorem dX5_countUnlike_9 : decode cX5_countUnlike 9 = .ok (.getfield 67, 3) := by decide +kernel
theorem dX5_countUnlike_12 : decode cX5_countUnlike 12 = .ok (.getfield 164, 3) := by decide +kernel
theorem dX5_countUnlike_15 : decode cX5_countUnlike 15 = .ok (.if_icmp .ge 41, 3) := by decide +kernel
theorem dX5_countUnlike_18 : decode cX5_countUnlike 18 = .ok (.iload_n 3, 1) := by decide +kernel
theorem dX5_countUnlike_19 : decode cX5_countUnlike 19 = .ok (.bipush 6, 2) := by decide +kernel
theorem dX5_countUnlike_21 : decode cX5_countUnlike 21 = .ok (.if_icmp .ge 35, 3) := by decide +kernel
theorem dX5_countUnlike_24 : decode cX5_countUnlike 24 = .ok (.iload_n 1, 1) := by decide +kernel
theorem dX5_countUnlike_25 : decode cX5_countUnlike 25 = .ok (.iload_n 3, 1) := by decide +kernel
theorem dX5_countUnlike_26 : decode cX5_countUnlike 26 = .ok (.ishr, 1) := by decide +kernel
theorem dX5_countUnlike_27 : decode cX5_countUnlike 27 = .ok (.iconst 1, 1) := by decide +kernel
theorem dX5_countUnlike_28 : decode cX5_countUnlike 28 = .ok (.iand, 1) := by decide +kernel
theorem dX5_countUnlike_29 : decode cX5_countUnlike 29 = .ok (.ifCond .eq 21, 3) := by decide +kernel
theorem dX5_countUnlike_32 : decode cX5_countUnlike 32 = .ok (.aload_n 0, 1) := by decide +kernel
theorem dX5_countUnlike_33 : decode cX5_countUnlike 33 = .ok (.getfield 15, 3) := by decide +kernel
theorem dX5_countUnlike_36 : decode cX5_countUnlike 36 = .ok (.iload_n 3, 1) := by decide +kernel
theorem dX5_countUnlike_37 : decode cX5_countUnlike 37 = .ok (.iaload, 1) := by decide +kernel
theorem dX5_countUnlike_38 : decode cX5_countUnlike 38 = .ok (.aload_n 0, 1) := by decide +kernel
theorem dX5_countUnlike_39 : decode cX5_countUnlike 39 = .ok (.getfield 19, 3) := by decide +kernel
theorem dX5_countUnlike_42 : decode cX5_countUnlike 42 = .ok (.iload_n 3, 1) := by decide +kernel
theorem dX5_countUnlike_43 : decode cX5_countUnlike 43 = .ok (.iaload, 1) := by decide +kernel
theorem dX5_countUnlike_44 : decode cX5_countUnlike 44 = .ok (.if_icmp .eq 6, 3) := by decide +kernel
theorem dX5_countUnlike_47 : decode cX5_countUnlike 47 = .ok (.iinc 2 1, 3) := by decide +kernel
theorem dX5_countUnlike_50 : decode cX5_countUnlike 50 = .ok (.iinc 3 1, 3) := by decide +kernel
theorem dX5_countUnlike_53 : decode cX5_countUnlike 53 = .ok (.goto (-49), 3) := by decide +kernel
theorem dX5_countUnlike_56 : decode cX5_countUnlike 56 = .ok (.iload_n 2, 1) := by decide +kernel
theorem dX5_countUnlike_57 : decode cX5_countUnlike 57 = .ok (.ireturn, 1) := by decide +kernel
theorem dX6_init_0 : decode cX6_init 0 = .ok (.aload_n 0, 1) := by decide +kernel
theorem dX6_init_1 : decode cX6_init 1 = .ok (.invokespecial 3, 3) := by decide +kernel
theorem dX6_init_4 : decode cX6_init 4 = .ok (.aload_n 0, 1) := by decide +kernel
theorem dX6_init_5 : decode cX6_init 5 = .ok (.bipush 60, 2) := by decide +kernel
theorem dX6_init_7 : decode cX6_init 7 = .ok (.newarray .int, 2) := by decide +kernel
theorem dX6_init_9 : decode cX6_init 9 = .ok (.putfield 9, 3) := by decide +kernel
theorem dX6_init_12 : decode cX6_init 12 = .ok (.aload_n 0, 1) := by decide +kernel
theorem dX6_init_13 : decode cX6_init 13 = .ok (.aload_n 1, 1) := by decide +kernel
theorem dX6_init_14 : decode cX6_init 14 = .ok (.putfield 15, 3) := by decide +kernel
theorem dX6_init_17 : decode cX6_init 17 = .ok (.return_, 1) := by decide +kernel
theorem dX6_clear_0 : decode cX6_clear 0 = .ok (.aload_n 0, 1) := by decide +kernel
theorem dX6_clear_1 : decode cX6_clear 1 = .ok (.getfield 9, 3) := by decide +kernel
theorem dX6_clear_4 : decode cX6_clear 4 = .ok (.iconst 0, 1) := by decide +kernel
theorem dX6_clear_5 : decode cX6_clear 5 = .ok (.invokestatic 19, 3) := by decide +kernel
theorem dX6_clear_8 : decode cX6_clear 8 = .ok (.return_, 1) := by decide +kernel
theorem dX6_join_0 : decode cX6_join 0 = .ok (.iload_n 1, 1) := by decide +kernel
theorem dX6_join_1 : decode cX6_join 1 = .ok (.bipush 10, 2) := by decide +kernel
theorem dX6_join_3 : decode cX6_join 3 = .ok (.imul, 1) := by decide +kernel
theorem dX6_join_4 : decode cX6_join 4 = .ok (.iload_n 2, 1) := by decide +kernel
theorem dX6_join_5 : decode cX6_join 5 = .ok (.iadd, 1) := by decide +kernel
theorem dX6_join_6 : decode cX6_join 6 = .ok (.istore 4, 2) := by decide +kernel
theorem dX6_join_8 : decode cX6_join 8 = .ok (.iload 4, 2) := by decide +kernel
theorem dX6_join_10 : decode cX6_join 10 = .ok (.ifCond .lt 21, 3) := by decide +kernel
theorem dX6_join_13 : decode cX6_join 13 = .ok (.iload 4, 2) := by decide +kernel
theorem dX6_join_15 : decode cX6_join 15 = .ok (.aload_n 0, 1) := by decide +kernel
theorem dX6_join_16 : decode cX6_join 16 = .ok (.getfield 9, 3) := by decide +kernel
theorem dX6_join_19 : decode cX6_join 19 = .ok (.arraylength, 1) := by decide +kernel
theorem dX6_join_20 : decode cX6_join 20 = .ok (.if_icmp .ge 11, 3) := by decide +kernel
theorem dX6_join_23 : decode cX6_join 23 = .ok (.aload_n 0, 1) := by decide +kernel
theorem dX6_join_24 : decode cX6_join 24 = .ok (.getfield 9, 3) := by decide +kernel
theorem dX6_join_27 : decode cX6_join 27 = .ok (.iload 4, 2) := by decide +kernel
theorem dX6_join_29 : decode cX6_join 29 = .ok (.iload_n 3, 1) := by decide +kernel
theorem dX6_join_30 : decode cX6_join 30 = .ok (.iastore, 1) := by decide +kernel
theorem dX6_join_31 : decode cX6_join 31 = .ok (.return_, 1) := by decide +kernel
theorem dX6_groupOf_0 : decode cX6_groupOf 0 = .ok (.iload_n 1, 1) := by decide +kernel
theorem dX6_groupOf_1 : decode cX6_groupOf 1 = .ok (.bipush 10, 2) := by decide +kernel
theorem dX6_groupOf_3 : decode cX6_groupOf 3 = .ok (.imul, 1) := by decide +kernel
theorem dX6_groupOf_4 : decode cX6_groupOf 4 = .ok (.iload_n 2, 1) := by decide +kernel
theorem dX6_groupOf_5 : decode cX6_groupOf 5 = .ok (.iadd, 1) := by decide +kernel
theorem dX6_groupOf_6 : decode cX6_groupOf 6 = .ok (.istore_n 3, 1) := by decide +kernel
theorem dX6_groupOf_7 : decode cX6_groupOf 7 = .ok (.iload_n 3, 1) := by decide +kernel
theorem dX6_groupOf_8 : decode cX6_groupOf 8 = .ok (.ifCond .lt 21, 3) := by decide +kernel
theorem dX6_groupOf_11 : decode cX6_groupOf 11 = .ok (.iload_n 3, 1) := by decide +kernel
theorem dX6_groupOf_12 : decode cX6_groupOf 12 = .ok (.aload_n 0, 1) := by decide +kernel
theorem dX6_groupOf_13 : decode cX6_groupOf 13 = .ok (.getfield 9, 3) := by decide +kernel
theorem dX6_groupOf_16 : decode cX6_groupOf 16 = .ok (.arraylength, 1) := by decide +kernel
theorem dX6_groupOf_17 : decode cX6_groupOf 17 = .ok (.if_icmp .ge 12, 3) := by decide +kernel
theorem dX6_groupOf_20 : decode cX6_groupOf 20 = .ok (.aload_n 0, 1) := by decide +kernel
theorem dX6_groupOf_21 : decode cX6_groupOf 21 = .ok (.getfield 9, 3) := by decide +kernel
theorem dX6_groupOf_24 : decode cX6_groupOf 24 = .ok (.iload_n 3, 1) := by decide +kernel
theorem dX6_groupOf_25 : decode cX6_groupOf 25 = .ok (.iaload, 1) := by decide +kernel
theorem dX6_groupOf_26 : decode cX6_groupOf 26 = .ok (.goto 4, 3) := by decide +kernel
theorem dX6_groupOf_29 : decode cX6_groupOf 29 = .ok (.iconst (-1), 1) := by decide +kernel
theorem dX6_groupOf_30 : decode cX6_groupOf 30 = .ok (.ireturn, 1) := by decide +kernel
theorem dX6_survey_0 : decode cX6_survey 0 = .ok (.aload_n 0, 1) := by decide +kernel
theorem dX6_survey_1 : decode cX6_survey 1 = .ok (.iconst 0, 1) := by decide +kernel
theorem dX6_survey_2 : decode cX6_survey 2 = .ok (.putfield 25, 3) := by decide +kernel
theorem dX6_survey_5 : decode cX6_survey 5 = .ok (.aload_n 0, 1) := by decide +kernel
theorem dX6_survey_6 : decode cX6_survey 6 = .ok (.iconst 0, 1) := by decide +kernel
theorem dX6_survey_7 : decode cX6_survey 7 = .ok (.putfield 29, 3) := by decide +kernel
theorem dX6_survey_10 : decode cX6_survey 10 = .ok (.aload_n 0, 1) := by decide +kernel
theorem dX6_survey_11 : decode cX6_survey 11 = .ok (.iconst 0, 1) := by decide +kernel
theorem dX6_survey_12 : decode cX6_survey 12 = .ok (.putfield 32, 3) := by decide +kernel
theorem dX6_survey_15 : decode cX6_survey 15 = .ok (.aload_n 0, 1) := by decide +kernel
theorem dX6_survey_16 : decode cX6_survey 16 = .ok (.iconst 0, 1) := by decide +kernel
theorem dX6_survey_17 : decode cX6_survey 17 = .ok (.putfield 35, 3) := by decide +kernel
theorem dX6_survey_20 : decode cX6_survey 20 = .ok (.aload_n 0, 1) := by decide +kernel
theorem dX6_survey_21 : decode cX6_survey 21 = .ok (.getfield 15, 3) := by decide +kernel
theorem dX6_survey_24 : decode cX6_survey 24 = .ok (.getfield 38, 3) := by decide +kernel
theorem dX6_survey_27 : decode cX6_survey 27 = .ok (.astore 4, 2) := by decide +kernel
theorem dX6_survey_29 : decode cX6_survey 29 = .ok (.iconst 0, 1) := by decide +kernel
theorem dX6_survey_30 : decode cX6_survey 30 = .ok (.istore 5, 2) := by decide +kernel
theorem dX6_survey_32 : decode cX6_survey 32 = .ok (.iload 5, 2) := by decide +kernel
theorem dX6_survey_34 : decode cX6_survey 34 = .ok (.aload 4, 2) := by decide +kernel
theorem dX6_survey_36 : decode cX6_survey 36 = .ok (.getfield 44, 3) := by decide +kernel
theorem dX6_survey_39 : decode cX6_survey 39 = .ok (.if_icmp .ge 144, 3) := by decide +kernel
theorem dX6_survey_42 : decode cX6_survey 42 = .ok (.aload_n 0, 1) := by decide +kernel
theorem dX6_survey_43 : decode cX6_survey 43 = .ok (.getfield 15, 3) := by decide +kernel
theorem dX6_survey_46 : decode cX6_survey 46 = .ok (.iload 5, 2) := by decide +kernel
theorem dX6_survey_48 : decode cX6_survey 48 = .ok (.aload 4, 2) := by decide +kernel
theorem dX6_survey_50 : decode cX6_survey 50 = .ok (.getfield 49, 3) := by decide +kernel
theorem dX6_survey_53 : decode cX6_survey 53 = .ok (.iconst 0, 1) := by decide +kernel
theorem dX6_survey_54 : decode cX6_survey 54 = .ok (.invokevirtual 52, 3) := by decide +kernel
theorem dX6_survey_57 : decode cX6_survey 57 = .ok (.ifCond .eq 17, 3) := by decide +kernel
theorem dX6_survey_60 : decode cX6_survey 60 = .ok (.aload_n 0, 1) := by decide +kernel
theorem dX6_survey_61 : decode cX6_survey 61 = .ok (.getfield 15, 3) := by decide +kernel
theorem dX6_survey_64 : decode cX6_survey 64 = .ok (.getfield 56, 3) := by decide +kernel
theorem dX6_survey_67 : decode cX6_survey 67 = .ok (.iload_n 2, 1) := by decide +kernel
theorem dX6_survey_68 : decode cX6_survey 68 = .ok (.invokestatic 59, 3) := by decide +kernel
theorem dX6_survey_71 : decode cX6_survey 71 = .ok (.goto 4, 3) := by decide +kernel
theorem dX6_survey_74 : decode cX6_survey 74 = .ok (.iconst (-1), 1) := by decide +kernel
theorem dX6_survey_75 : decode cX6_survey 75 = .ok (.istore 6, 2) := by decide +kernel
theorem dX6_survey_77 : decode cX6_survey 77 = .ok (.iload 6, 2) := by decide +kernel
theorem dX6_survey_79 : decode cX6_survey 79 = .ok (.iconst (-1), 1) := by decide +kernel
theorem dX6_survey_80 : decode cX6_survey 80 = .ok (.if_icmp .ne 6, 3) := by decide +kernel
theorem dX6_survey_83 : decode cX6_survey 83 = .ok (.goto 94, 3) := by decide +kernel
theorem dX6_survey_86 : decode cX6_survey 86 = .ok (.aload_n 1, 1) := by decide +kernel
theorem dX6_survey_87 : decode cX6_survey 87 = .ok (.getfield 63, 3) := by decide +kernel
theorem dX6_survey_90 : decode cX6_survey 90 = .ok (.aload_n 0, 1) := by decide +kernel
theorem dX6_survey_91 : decode cX6_survey 91 = .ok (.getfield 15, 3) := by decide +kernel
theorem dX6_survey_94 : decode cX6_survey 94 = .ok (.getfield 56, 3) := by decide +kernel
theorem dX6_survey_97 : decode cX6_survey 97 = .ok (.invokevirtual 69, 3) := by decide +kernel
theorem dX6_survey_100 : decode cX6_survey 100 = .ok (.ifCond .eq 7, 3) := by decide +kernel
theorem dX6_survey_103 : decode cX6_survey 103 = .ok (.iconst 1, 1) := by decide +kernel
theorem dX6_survey_104 : decode cX6_survey 104 = .ok (.goto 4, 3) := by decide +kernel
theorem dX6_survey_107 : decode cX6_survey 107 = .ok (.iconst 0, 1) := by decide +kernel
theorem dX6_survey_108 : decode cX6_survey 108 = .ok (.istore 7, 2) := by decide +kernel
theorem dX6_survey_110 : decode cX6_survey 110 = .ok (.iload 6, 2) := by decide +kernel
theorem dX6_survey_112 : decode cX6_survey 112 = .ok (.iload_n 3, 1) := by decide +kernel
theorem dX6_survey_113 : decode cX6_survey 113 = .ok (.if_icmp .ne 27, 3) := by decide +kernel
theorem dX6_survey_116 : decode cX6_survey 116 = .ok (.aload_n 0, 1) := by decide +kernel
theorem dX6_survey_117 : decode cX6_survey 117 = .ok (.dup, 1) := by decide +kernel
theorem dX6_survey_118 : decode cX6_survey 118 = .ok (.getfield 25, 3) := by decide +kernel
theorem dX6_survey_121 : decode cX6_survey 121 = .ok (.iconst 1, 1) := by decide +kernel
theorem dX6_survey_122 : decode cX6_survey 122 = .ok (.iadd, 1) := by decide +kernel
theorem dX6_survey_123 : decode cX6_survey 123 = .ok (.putfield 25, 3) := by decide +kernel
theorem dX6_survey_126 : decode cX6_survey 126 = .ok (.aload_n 0, 1) := by decide +kernel
theorem dX6_survey_127 : decode cX6_survey 127 = .ok (.dup, 1) := by decide +kernel
theorem dX6_survey_128 : decode cX6_survey 128 = .ok (.getfield 29, 3) := by decide +kernel
theorem dX6_survey_131 : decode cX6_survey 131 = .ok (.iload 7, 2) := by decide +kernel
theorem dX6_survey_133 : decode cX6_survey 133 = .ok (.iadd, 1) := by decide +kernel
theorem dX6_survey_134 : decode cX6_survey 134 = .ok (.putfield 29, 3) := by decide +kernel
theorem dX6_survey_137 : decode cX6_survey 137 = .ok (.goto 40, 3) := by decide +kernel
theorem dX6_survey_140 : decode cX6_survey 140 = .ok (.aload_n 0, 1) := by decide +kernel
theorem dX6_survey_141 : decode cX6_survey 141 = .ok (.iload_n 2, 1) := by decide +kernel
theorem dX6_survey_142 : decode cX6_survey 142 = .ok (.iload 6, 2) := by decide +kernel
theorem dX6_survey_144 : decode cX6_survey 144 = .ok (.invokevirtual 75, 3) := by decide +kernel
theorem dX6_survey_147 : decode cX6_survey 147 = .ok (.aload_n 0, 1) := by decide +kernel
theorem dX6_survey_148 : decode cX6_survey 148 = .ok (.iload_n 2, 1) := by decide +kernel
theorem dX6_survey_149 : decode cX6_survey 149 = .ok (.iload_n 3, 1) := by decide +kernel
theorem dX6_survey_150 : decode cX6_survey 150 = .ok (.invokevirtual 75, 3) := by decide +kernel
theorem dX6_survey_153 : decode cX6_survey 153 = .ok (.if_icmp .ne 24, 3) := by decide +kernel
theorem dX6_survey_156 : decode cX6_survey 156 = .ok (.aload_n 0, 1) := by decide +kernel
theorem dX6_survey_157 : decode cX6_survey 157 = .ok (.dup, 1) := by decide +kernel
theorem dX6_survey_158 : decode cX6_survey 158 = .ok (.getfield 32, 3) := by decide +kernel
theorem dX6_survey_161 : decode cX6_survey 161 = .ok (.iconst 1, 1) := by decide +kernel
theorem dX6_survey_162 : decode cX6_survey 162 = .ok (.iadd, 1) := by decide +kernel
theorem dX6_survey_163 : decode cX6_survey 163 = .ok (.putfield 32, 3) := by decide +kernel
theorem dX6_survey_166 : decode cX6_survey 166 = .ok (.aload_n 0, 1) := by decide +kernel
theorem dX6_survey_167 : decode cX6_survey 167 = .ok (.dup, 1) := by decide +kernel
theorem dX6_survey_168 : decode cX6_survey 168 = .ok (.getfield 35, 3) := by decide +kernel
theorem dX6_survey_171 : decode cX6_survey 171 = .ok (.iload 7, 2) := by decide +kernel
theorem dX6_survey_173 : decode cX6_survey 173 = .ok (.iadd, 1) := by decide +kernel
theorem dX6_survey_174 : decode cX6_survey 174 = .ok (.putfield 35, 3) := by decide +kernel
theorem dX6_survey_177 : decode cX6_survey 177 = .ok (.iinc 5 1, 3) := by decide +kernel
theorem dX6_survey_180 : decode cX6_survey 180 = .ok (.goto (-148), 3) := by decide +kernel
theorem dX6_survey_183 : decode cX6_survey 183 = .ok (.return_, 1) := by decide +kernel
theorem dX6_thousandths_0 : decode cX6_thousandths 0 = .ok (.iload_n 1, 1) := by decide +kernel
theorem dX6_thousandths_1 : decode cX6_thousandths 1 = .ok (.ifCond .le 13, 3) := by decide +kernel
theorem dX6_thousandths_4 : decode cX6_thousandths 4 = .ok (.iload_n 0, 1) := by decide +kernel
theorem dX6_thousandths_5 : decode cX6_thousandths 5 = .ok (.sipush 1000, 3) := by decide +kernel
theorem dX6_thousandths_8 : decode cX6_thousandths 8 = .ok (.imul, 1) := by decide +kernel
theorem dX6_thousandths_9 : decode cX6_thousandths 9 = .ok (.iload_n 1, 1) := by decide +kernel
theorem dX6_thousandths_10 : decode cX6_thousandths 10 = .ok (.idiv, 1) := by decide +kernel
theorem dX6_thousandths_11 : decode cX6_thousandths 11 = .ok (.goto 4, 3) := by decide +kernel
theorem dX6_thousandths_14 : decode cX6_thousandths 14 = .ok (.iconst 0, 1) := by decide +kernel
theorem dX6_thousandths_15 : decode cX6_thousandths 15 = .ok (.ireturn, 1) := by decide +kernel
theorem dX6_own_0 : decode cX6_own 0 = .ok (.aload_n 0, 1) := by decide +kernel
theorem dX6_own_1 : decode cX6_own 1 = .ok (.getfield 29, 3) := by decide +kernel
theorem dX6_own_4 : decode cX6_own 4 = .ok (.aload_n 0, 1) := by decide +kernel
theorem dX6_own_5 : decode cX6_own 5 = .ok (.getfield 25, 3) := by decide +kernel
theorem dX6_own_8 : decode cX6_own 8 = .ok (.invokestatic 79, 3) := by decide +kernel
theorem dX6_own_11 : decode cX6_own 11 = .ok (.ireturn, 1) := by decide +kernel
theorem dX6_like_0 : decode cX6_like 0 = .ok (.aload_n 0, 1) := by decide +kernel
theorem dX6_like_1 : decode cX6_like 1 = .ok (.getfield 35, 3) := by decide +kernel
theorem dX6_like_4 : decode cX6_like 4 = .ok (.aload_n 0, 1) := by decide +kernel
theorem dX6_like_5 : decode cX6_like 5 = .ok (.getfield 32, 3) := by decide +kernel
theorem dX6_like_8 : decode cX6_like 8 = .ok (.invokestatic 79, 3) := by decide +kernel
theorem dX6_like_11 : decode cX6_like 11 = .ok (.ireturn, 1) := by decide +kernel
theorem dX6_part_0 : decode cX6_part 0 = .ok (.aload_n 0, 1) := by decide +kernel
theorem dX6_part_1 : decode cX6_part 1 = .ok (.getfield 25, 3) := by decide +kernel
theorem dX6_part_4 : decode cX6_part 4 = .ok (.aload_n 0, 1) := by decide +kernel
theorem dX6_part_5 : decode cX6_part 5 = .ok (.getfield 25, 3) := by decide +kernel
theorem dX6_part_8 : decode cX6_part 8 = .ok (.iload_n 1, 1) := by decide +kernel
theorem dX6_part_9 : decode cX6_part 9 = .ok (.iadd, 1) := by decide +kernel
theorem dX6_part_10 : decode cX6_part 10 = .ok (.invokestatic 79, 3) := by decide +kernel
theorem dX6_part_13 : decode cX6_part 13 = .ok (.ireturn, 1) := by decide +kernel
theorem dX6_joined_0 : decode cX6_joined 0 = .ok (.aload_n 0, 1) := by decide +kernel
theorem dX6_joined_1 : decode cX6_joined 1 = .ok (.invokevirtual 82, 3) := by decide +kernel
theorem dX6_joined_4 : decode cX6_joined 4 = .ok (.aload_n 0, 1) := by decide +kernel
theorem dX6_joined_5 : decode cX6_joined 5 = .ok (.iload_n 1, 1) := by decide +kernel
theorem dX6_joined_6 : decode cX6_joined 6 = .ok (.invokevirtual 86, 3) := by decide +kernel
theorem dX6_joined_9 : decode cX6_joined 9 = .ok (.imul, 1) := by decide +kernel
theorem dX6_joined_10 : decode cX6_joined 10 = .ok (.aload_n 0, 1) := by decide +kernel
theorem dX6_joined_11 : decode cX6_joined 11 = .ok (.invokevirtual 90, 3) := by decide +kernel
theorem dX6_joined_14 : decode cX6_joined 14 = .ok (.sipush 1000, 3) := by decide +kernel
theorem dX6_joined_17 : decode cX6_joined 17 = .ok (.aload_n 0, 1) := by decide +kernel
theorem dX6_joined_18 : decode cX6_joined 18 = .ok (.iload_n 1, 1) := by decide +kernel
theorem dX6_joined_19 : decode cX6_joined 19 = .ok (.invokevirtual 86, 3) := by decide +kernel
theorem dX6_joined_22 : decode cX6_joined 22 = .ok (.isub, 1) := by decide +kernel
theorem dX6_joined_23 : decode cX6_joined 23 = .ok (.imul, 1) := by decide +kernel
theorem dX6_joined_24 : decode cX6_joined 24 = .ok (.iadd, 1) := by decide +kernel
theorem dX6_joined_25 : decode cX6_joined 25 = .ok (.sipush 1000, 3) := by decide +kernel
theorem dX6_joined_28 : decode cX6_joined 28 = .ok (.idiv, 1) := by decide +kernel
theorem dX6_joined_29 : decode cX6_joined 29 = .ok (.ireturn, 1) := by decide +kernel
theorem dX7_init_0 : decode cX7_init 0 = .ok (.aload_n 0, 1) := by decide +kernel
theorem dX7_init_1 : decode cX7_init 1 = .ok (.invokespecial 3, 3) := by decide +kernel
theorem dX7_init_4 : decode cX7_init 4 = .ok (.aload_n 0, 1) := by decide +kernel
theorem dX7_init_5 : decode cX7_init 5 = .ok (.new 9, 3) := by decide +kernel
theorem dX7_init_8 : decode cX7_init 8 = .ok (.dup, 1) := by decide +kernel
theorem dX7_init_9 : decode cX7_init 9 = .ok (.invokespecial 11, 3) := by decide +kernel
theorem dX7_init_12 : decode cX7_init 12 = .ok (.putfield 12, 3) := by decide +kernel
theorem dX7_init_15 : decode cX7_init 15 = .ok (.aload_n 0, 1) := by decide +kernel
theorem dX7_init_16 : decode cX7_init 16 = .ok (.bipush 100, 2) := by decide +kernel
theorem dX7_init_18 : decode cX7_init 18 = .ok (.newarray .long, 2) := by decide +kernel
theorem dX7_init_20 : decode cX7_init 20 = .ok (.putfield 18, 3) := by decide +kernel
theorem dX7_init_23 : decode cX7_init 23 = .ok (.aload_n 0, 1) := by decide +kernel
theorem dX7_init_24 : decode cX7_init 24 = .ok (.bipush 100, 2) := by decide +kernel
theorem dX7_init_26 : decode cX7_init 26 = .ok (.newarray .long, 2) := by decide +kernel
theorem dX7_init_28 : decode cX7_init 28 = .ok (.putfield 22, 3) := by decide +kernel
theorem dX7_init_31 : decode cX7_init 31 = .ok (.return_, 1) := by decide +kernel
theorem dX7_clear_0 : decode cX7_clear 0 = .ok (.aload_n 0, 1) := by decide +kernel
theorem dX7_clear_1 : decode cX7_clear 1 = .ok (.getfield 12, 3) := by decide +kernel
theorem dX7_clear_4 : decode cX7_clear 4 = .ok (.invokevirtual 25, 3) := by decide +kernel
theorem dX7_clear_7 : decode cX7_clear 7 = .ok (.aload_n 0, 1) := by decide +kernel
theorem dX7_clear_8 : decode cX7_clear 8 = .ok (.getfield 22, 3) := by decide +kernel
theorem dX7_clear_11 : decode cX7_clear 11 = .ok (.ldc2_w 28, 3) := by decide +kernel
theorem dX7_clear_14 : decode cX7_clear 14 = .ok (.invokestatic 30, 3) := by decide +kernel
theorem dX7_clear_17 : decode cX7_clear 17 = .ok (.aload_n 0, 1) := by decide +kernel
theorem dX7_clear_18 : decode cX7_clear 18 = .ok (.iconst (-1), 1) := by decide +kernel
theorem dX7_clear_19 : decode cX7_clear 19 = .ok (.putfield 36, 3) := by decide +kernel
theorem dX7_clear_22 : decode cX7_clear 22 = .ok (.aload_n 0, 1) := by decide +kernel
theorem dX7_clear_23 : decode cX7_clear 23 = .ok (.iconst (-1), 1) := by decide +kernel
theorem dX7_clear_24 : decode cX7_clear 24 = .ok (.putfield 40, 3) := by decide +kernel
theorem dX7_clear_27 : decode cX7_clear 27 = .ok (.aload_n 0, 1) := by decide +kernel
theorem dX7_clear_28 : decode cX7_clear 28 = .ok (.iconst (-1), 1) := by decide +kernel
theorem dX7_clear_29 : decode cX7_clear 29 = .ok (.putfield 43, 3) := by decide +kernel
theorem dX7_clear_32 : decode cX7_clear 32 = .ok (.aload_n 0, 1) := by decide +kernel
theorem dX7_clear_33 : decode cX7_clear 33 = .ok (.iconst 1, 1) := by decide +kernel
theorem dX7_clear_34 : decode cX7_clear 34 = .ok (.putfield 46, 3) := by decide +kernel
theorem dX7_clear_37 : decode cX7_clear 37 = .ok (.aload_n 0, 1) := by decide +kernel
theorem dX7_clear_38 : decode cX7_clear 38 = .ok (.iconst 1, 1) := by decide +kernel
theorem dX7_clear_39 : decode cX7_clear 39 = .ok (.putfield 49, 3) := by decide +kernel
theorem dX7_clear_42 : decode cX7_clear 42 = .ok (.return_, 1) := by decide +kernel
theorem dX7_by_0 : decode cX7_by 0 = .ok (.aload_n 0, 1) := by decide +kernel
theorem dX7_by_1 : decode cX7_by 1 = .ok (.iload_n 1, 1) := by decide +kernel
theorem dX7_by_2 : decode cX7_by 2 = .ok (.putfield 40, 3) := by decide +kernel
theorem dX7_by_5 : decode cX7_by 5 = .ok (.aload_n 0, 1) := by decide +kernel
theorem dX7_by_6 : decode cX7_by 6 = .ok (.iload_n 2, 1) := by decide +kernel
theorem dX7_by_7 : decode cX7_by 7 = .ok (.iconst 1, 1) := by decide +kernel
theorem dX7_by_8 : decode cX7_by 8 = .ok (.iadd, 1) := by decide +kernel
theorem dX7_by_9 : decode cX7_by 9 = .ok (.putfield 46, 3) := by decide +kernel
theorem dX7_by_12 : decode cX7_by 12 = .ok (.return_, 1) := by decide +kernel
theorem dX7_andBy_0 : decode cX7_andBy 0 = .ok (.aload_n 0, 1) := by decide +kernel
theorem dX7_andBy_1 : decode cX7_andBy 1 = .ok (.iload_n 1, 1) := by decide +kernel
theorem dX7_andBy_2 : decode cX7_andBy 2 = .ok (.putfield 43, 3) := by decide +kernel
theorem dX7_andBy_5 : decode cX7_andBy 5 = .ok (.aload_n 0, 1) := by decide +kernel
theorem dX7_andBy_6 : decode cX7_andBy 6 = .ok (.iload_n 2, 1) := by decide +kernel
theorem dX7_andBy_7 : decode cX7_andBy 7 = .ok (.iconst 1, 1) := by decide +kernel
theorem dX7_andBy_8 : decode cX7_andBy 8 = .ok (.iadd, 1) := by decide +kernel
theorem dX7_andBy_9 : decode cX7_andBy 9 = .ok (.putfield 49, 3) := by decide +kernel
theorem dX7_andBy_12 : decode cX7_andBy 12 = .ok (.return_, 1) := by decide +kernel
theorem dX7_cells_0 : decode cX7_cells 0 = .ok (.aload_n 0, 1) := by decide +kernel
theorem dX7_cells_1 : decode cX7_cells 1 = .ok (.getfield 46, 3) := by decide +kernel
theorem dX7_cells_4 : decode cX7_cells 4 = .ok (.aload_n 0, 1) := by decide +kernel
theorem dX7_cells_5 : decode cX7_cells 5 = .ok (.getfield 49, 3) := by decide +kernel
theorem dX7_cells_8 : decode cX7_cells 8 = .ok (.imul, 1) := by decide +kernel
theorem dX7_cells_9 : decode cX7_cells 9 = .ok (.ireturn, 1) := by decide +kernel
theorem dX7_hasCell_0 : decode cX7_hasCell 0 = .ok (.iload_n 1, 1) := by decide +kernel
theorem dX7_hasCell_1 : decode cX7_hasCell 1 = .ok (.ifCond .lt 27, 3) := by decide +kernel
theorem dX7_hasCell_4 : decode cX7_hasCell 4 = .ok (.iload_n 1, 1) := by decide +kernel
theorem dX7_hasCell_5 : decode cX7_hasCell 5 = .ok (.aload_n 0, 1) := by decide +kernel
theorem dX7_hasCell_6 : decode cX7_hasCell 6 = .ok (.getfield 46, 3) := by decide +kernel
theorem dX7_hasCell_9 : decode cX7_hasCell 9 = .ok (.if_icmp .ge 19, 3) := by decide +kernel
theorem dX7_hasCell_12 : decode cX7_hasCell 12 = .ok (.iload_n 2, 1) := by decide +kernel
theorem dX7_hasCell_13 : decode cX7_hasCell 13 = .ok (.ifCond .lt 15, 3) := by decide +kernel
theorem dX7_hasCell_16 : decode cX7_hasCell 16 = .ok (.iload_n 2, 1) := by decide +kernel
theorem dX7_hasCell_17 : decode cX7_hasCell 17 = .ok (.aload_n 0, 1) := by decide +kernel
theorem dX7_hasCell_18 : decode cX7_hasCell 18 = .ok (.getfield 49, 3) := by decide +kernel
theorem dX7_hasCell_21 : decode cX7_hasCell 21 = .ok (.if_icmp .ge 7, 3) := by decide +kernel
theorem dX7_hasCell_24 : decode cX7_hasCell 24 = .ok (.iconst 1, 1) := by decide +kernel
theorem dX7_hasCell_25 : decode cX7_hasCell 25 = .ok (.goto 4, 3) := by decide +kernel
theorem dX7_hasCell_28 : decode cX7_hasCell 28 = .ok (.iconst 0, 1) := by decide +kernel
theorem dX7_hasCell_29 : decode cX7_hasCell 29 = .ok (.ireturn, 1) := by decide +kernel
theorem dX7_cellAt_0 : decode cX7_cellAt 0 = .ok (.iload_n 1, 1) := by decide +kernel
theorem dX7_cellAt_1 : decode cX7_cellAt 1 = .ok (.aload_n 0, 1) := by decide +kernel
theorem dX7_cellAt_2 : decode cX7_cellAt 2 = .ok (.getfield 49, 3) := by decide +kernel
theorem dX7_cellAt_5 : decode cX7_cellAt 5 = .ok (.imul, 1) := by decide +kernel
theorem dX7_cellAt_6 : decode cX7_cellAt 6 = .ok (.iload_n 2, 1) := by decide +kernel
theorem dX7_cellAt_7 : decode cX7_cellAt 7 = .ok (.iadd, 1) := by decide +kernel
theorem dX7_cellAt_8 : decode cX7_cellAt 8 = .ok (.ireturn, 1) := by decide +kernel
theorem dX7_cellOf_0 : decode cX7_cellOf 0 = .ok (.aload_n 0, 1) := by decide +kernel
theorem dX7_cellOf_1 : decode cX7_cellOf 1 = .ok (.getfield 40, 3) := by decide +kernel
theorem dX7_cellOf_4 : decode cX7_cellOf 4 = .ok (.iconst (-1), 1) := by decide +kernel
theorem dX7_cellOf_5 : decode cX7_cellOf 5 = .ok (.if_icmp .ne 7, 3) := by decide +kernel
theorem dX7_cellOf_8 : decode cX7_cellOf 8 = .ok (.iconst 0, 1) := by decide +kernel
theorem dX7_cellOf_9 : decode cX7_cellOf 9 = .ok (.goto 11, 3) := by decide +kernel
theorem dX7_cellOf_12 : decode cX7_cellOf 12 = .ok (.aload_n 1, 1) := by decide +kernel
theorem dX7_cellOf_13 : decode cX7_cellOf 13 = .ok (.aload_n 0, 1) := by decide +kernel
theorem dX7_cellOf_14 : decode cX7_cellOf 14 = .ok (.getfield 40, 3) := by decide +kernel
theorem dX7_cellOf_17 : decode cX7_cellOf 17 = .ok (.invokestatic 52, 3) := by decide +kernel
theorem dX7_cellOf_20 : decode cX7_cellOf 20 = .ok (.istore_n 2, 1) := by decide +kernel
theorem dX7_cellOf_21 : decode cX7_cellOf 21 = .ok (.aload_n 0, 1) := by decide +kernel
theorem dX7_cellOf_22 : decode cX7_cellOf 22 = .ok (.getfield 43, 3) := by decide +kernel
theorem dX7_cellOf_25 : decode cX7_cellOf 25 = .ok (.iconst (-1), 1) := by decide +kernel
theorem dX7_cellOf_26 : decode cX7_cellOf 26 = .ok (.if_icmp .ne 7, 3) := by decide +kernel
theorem dX7_cellOf_29 : decode cX7_cellOf 29 = .ok (.iconst 0, 1) := by decide +kernel
theorem dX7_cellOf_30 : decode cX7_cellOf 30 = .ok (.goto 11, 3) := by decide +kernel
theorem dX7_cellOf_33 : decode cX7_cellOf 33 = .ok (.aload_n 1, 1) := by decide +kernel
theorem dX7_cellOf_34 : decode cX7_cellOf 34 = .ok (.aload_n 0, 1) := by decide +kernel
theorem dX7_cellOf_35 : decode cX7_cellOf 35 = .ok (.getfield 43, 3) := by decide +kernel
theorem dX7_cellOf_38 : decode cX7_cellOf 38 = .ok (.invokestatic 52, 3) := by decide +kernel
theorem dX7_cellOf_41 : decode cX7_cellOf 41 = .ok (.istore_n 3, 1) := by decide +kernel
theorem dX7_cellOf_42 : decode cX7_cellOf 42 = .ok (.aload_n 0, 1) := by decide +kernel
theorem dX7_cellOf_43 : decode cX7_cellOf 43 = .ok (.iload_n 2, 1) := by decide +kernel
theorem dX7_cellOf_44 : decode cX7_cellOf 44 = .ok (.iload_n 3, 1) := by decide +kernel
theorem dX7_cellOf_45 : decode cX7_cellOf 45 = .ok (.invokevirtual 56, 3) := by decide +kernel
theorem dX7_cellOf_48 : decode cX7_cellOf 48 = .ok (.ifCond .eq 34, 3) := by decide +kernel
theorem dX7_cellOf_51 : decode cX7_cellOf 51 = .ok (.aload_n 0, 1) := by decide +kernel
theorem dX7_cellOf_52 : decode cX7_cellOf 52 = .ok (.getfield 36, 3) := by decide +kernel
theorem dX7_cellOf_55 : decode cX7_cellOf 55 = .ok (.iconst (-1), 1) := by decide +kernel
theorem dX7_cellOf_56 : decode cX7_cellOf 56 = .ok (.if_icmp .eq 15, 3) := by decide +kernel
theorem dX7_cellOf_59 : decode cX7_cellOf 59 = .ok (.aload_n 1, 1) := by decide +kernel
theorem dX7_cellOf_60 : decode cX7_cellOf 60 = .ok (.aload_n 0, 1) := by decide +kernel
theorem dX7_cellOf_61 : decode cX7_cellOf 61 = .ok (.getfield 36, 3) := by decide +kernel
theorem dX7_cellOf_64 : decode cX7_cellOf 64 = .ok (.invokestatic 52, 3) := by decide +kernel
theorem dX7_cellOf_67 : decode cX7_cellOf 67 = .ok (.iconst (-1), 1) := by decide +kernel
theorem dX7_cellOf_68 : decode cX7_cellOf 68 = .ok (.if_icmp .eq 14, 3) := by decide +kernel
theorem dX7_cellOf_71 : decode cX7_cellOf 71 = .ok (.aload_n 0, 1) := by decide +kernel
theorem dX7_cellOf_72 : decode cX7_cellOf 72 = .ok (.getfield 12, 3) := by decide +kernel
theorem dX7_cellOf_75 : decode cX7_cellOf 75 = .ok (.aload_n 1, 1) := by decide +kernel
theorem dX7_cellOf_76 : decode cX7_cellOf 76 = .ok (.invokevirtual 60, 3) := by decide +kernel
theorem dX7_cellOf_79 : decode cX7_cellOf 79 = .ok (.ifCond .ne 5, 3) := by decide +kernel
theorem dX7_cellOf_82 : decode cX7_cellOf 82 = .ok (.iconst (-1), 1) := by decide +kernel
theorem dX7_cellOf_83 : decode cX7_cellOf 83 = .ok (.ireturn, 1) := by decide +kernel
theorem dX7_cellOf_84 : decode cX7_cellOf 84 = .ok (.aload_n 0, 1) := by decide +kernel
theorem dX7_cellOf_85 : decode cX7_cellOf 85 = .ok (.iload_n 2, 1) := by decide +kernel
theorem dX7_cellOf_86 : decode cX7_cellOf 86 = .ok (.iload_n 3, 1) := by decide +kernel
theorem dX7_cellOf_87 : decode cX7_cellOf 87 = .ok (.invokevirtual 64, 3) := by decide +kernel
theorem dX7_cellOf_90 : decode cX7_cellOf 90 = .ok (.ireturn, 1) := by decide +kernel
theorem dX7_timesOf_0 : decode cX7_timesOf 0 = .ok (.aload_n 0, 1) := by decide +kernel
theorem dX7_timesOf_1 : decode cX7_timesOf 1 = .ok (.getfield 36, 3) := by decide +kernel
theorem dX7_timesOf_4 : decode cX7_timesOf 4 = .ok (.iconst (-1), 1) := by decide +kernel
theorem dX7_timesOf_5 : decode cX7_timesOf 5 = .ok (.if_icmp .ne 7, 3) := by decide +kernel
theorem dX7_timesOf_8 : decode cX7_timesOf 8 = .ok (.iconst 1, 1) := by decide +kernel
theorem dX7_timesOf_9 : decode cX7_timesOf 9 = .ok (.goto 11, 3) := by decide +kernel
theorem dX7_timesOf_12 : decode cX7_timesOf 12 = .ok (.aload_n 1, 1) := by decide +kernel
theorem dX7_timesOf_13 : decode cX7_timesOf 13 = .ok (.aload_n 0, 1) := by decide +kernel
theorem dX7_timesOf_14 : decode cX7_timesOf 14 = .ok (.getfield 36, 3) := by decide +kernel
theorem dX7_timesOf_17 : decode cX7_timesOf 17 = .ok (.invokestatic 52, 3) := by decide +kernel
theorem dX7_timesOf_20 : decode cX7_timesOf 20 = .ok (.ireturn, 1) := by decide +kernel
theorem dX7_isGuarded_0 : decode cX7_isGuarded 0 = .ok (.aload_n 0, 1) := by decide +kernel
theorem dX7_isGuarded_1 : decode cX7_isGuarded 1 = .ok (.getfield 36, 3) := by decide +kernel
theorem dX7_isGuarded_4 : decode cX7_isGuarded 4 = .ok (.iconst (-1), 1) := by decide +kernel
theorem dX7_isGuarded_5 : decode cX7_isGuarded 5 = .ok (.if_icmp .ne 24, 3) := by decide +kernel
theorem dX7_isGuarded_8 : decode cX7_isGuarded 8 = .ok (.aload_n 0, 1) := by decide +kernel
theorem dX7_isGuarded_9 : decode cX7_isGuarded 9 = .ok (.getfield 43, 3) := by decide +kernel
theorem dX7_isGuarded_12 : decode cX7_isGuarded 12 = .ok (.iconst (-1), 1) := by decide +kernel
theorem dX7_isGuarded_13 : decode cX7_isGuarded 13 = .ok (.if_icmp .eq 16, 3) := by decide +kernel
theorem dX7_isGuarded_16 : decode cX7_isGuarded 16 = .ok (.aload_n 0, 1) := by decide +kernel
theorem dX7_isGuarded_17 : decode cX7_isGuarded 17 = .ok (.invokevirtual 68, 3) := by decide +kernel
theorem dX7_isGuarded_20 : decode cX7_isGuarded 20 = .ok (.bipush 60, 2) := by decide +kernel
theorem dX7_isGuarded_22 : decode cX7_isGuarded 22 = .ok (.if_icmp .gt 7, 3) := by decide +kernel
theorem dX7_isGuarded_25 : decode cX7_isGuarded 25 = .ok (.iconst 1, 1) := by decide +kernel
theorem dX7_isGuarded_26 : decode cX7_isGuarded 26 = .ok (.goto 4, 3) := by decide +kernel
theorem dX7_isGuarded_29 : decode cX7_isGuarded 29 = .ok (.iconst 0, 1) := by decide +kernel
theorem dX7_isGuarded_30 : decode cX7_isGuarded 30 = .ok (.ireturn, 1) := by decide +kernel
theorem dX7_hasBits_0 : decode cX7_hasBits 0 = .ok (.aload_n 0, 1) := by decide +kernel
theorem dX7_hasBits_1 : decode cX7_hasBits 1 = .ok (.invokevirtual 68, 3) := by decide +kernel
theorem dX7_hasBits_4 : decode cX7_hasBits 4 = .ok (.bipush 60, 2) := by decide +kernel
theorem dX7_hasBits_6 : decode cX7_hasBits 6 = .ok (.if_icmp .gt 18, 3) := by decide +kernel
theorem dX7_hasBits_9 : decode cX7_hasBits 9 = .ok (.lload_n 1, 1) := by decide +kernel
theorem dX7_hasBits_10 : decode cX7_hasBits 10 = .ok (.aload_n 0, 1) := by decide +kernel
theorem dX7_hasBits_11 : decode cX7_hasBits 11 = .ok (.invokevirtual 68, 3) := by decide +kernel
theorem dX7_hasBits_14 : decode cX7_hasBits 14 = .ok (.lushr, 1) := by decide +kernel
theorem dX7_hasBits_15 : decode cX7_hasBits 15 = .ok (.lconst 0, 1) := by decide +kernel
theorem dX7_hasBits_16 : decode cX7_hasBits 16 = .ok (.lcmp, 1) := by decide +kernel
theorem dX7_hasBits_17 : decode cX7_hasBits 17 = .ok (.ifCond .ne 7, 3) := by decide +kernel
theorem dX7_hasBits_20 : decode cX7_hasBits 20 = .ok (.iconst 1, 1) := by decide +kernel
theorem dX7_hasBits_21 : decode cX7_hasBits 21 = .ok (.goto 4, 3) := by decide +kernel
theorem dX7_hasBits_24 : decode cX7_hasBits 24 = .ok (.iconst 0, 1) := by decide +kernel
theorem dX7_hasBits_25 : decode cX7_hasBits 25 = .ok (.ireturn, 1) := by decide +kernel
theorem dX7_countsLike_0 : decode cX7_countsLike 0 = .ok (.aload_n 0, 1) := by decide +kernel
theorem dX7_countsLike_1 : decode cX7_countsLike 1 = .ok (.getfield 36, 3) := by decide +kernel
theorem dX7_countsLike_4 : decode cX7_countsLike 4 = .ok (.iconst (-1), 1) := by decide +kernel
theorem dX7_countsLike_5 : decode cX7_countsLike 5 = .ok (.if_icmp .ne 37, 3) := by decide +kernel
theorem dX7_countsLike_8 : decode cX7_countsLike 8 = .ok (.aload_n 1, 1) := by decide +kernel
theorem dX7_countsLike_9 : decode cX7_countsLike 9 = .ok (.getfield 36, 3) := by decide +kernel
theorem dX7_countsLike_12 : decode cX7_countsLike 12 = .ok (.iconst (-1), 1) := by decide +kernel
theorem dX7_countsLike_13 : decode cX7_countsLike 13 = .ok (.if_icmp .ne 29, 3) := by decide +kernel
theorem dX7_countsLike_16 : decode cX7_countsLike 16 = .ok (.aload_n 0, 1) := by decide +kernel
theorem dX7_countsLike_17 : decode cX7_countsLike 17 = .ok (.getfield 40, 3) := by decide +kernel
theorem dX7_countsLike_20 : decode cX7_countsLike 20 = .ok (.aload_n 1, 1) := by decide +kernel
theorem dX7_countsLike_21 : decode cX7_countsLike 21 = .ok (.getfield 40, 3) := by decide +kernel
theorem dX7_countsLike_24 : decode cX7_countsLike 24 = .ok (.if_icmp .ne 18, 3) := by decide +kernel
theorem dX7_countsLike_27 : decode cX7_countsLike 27 = .ok (.aload_n 0, 1) := by decide +kernel
theorem dX7_countsLike_28 : decode cX7_countsLike 28 = .ok (.getfield 43, 3) := by decide +kernel
theorem dX7_countsLike_31 : decode cX7_countsLike 31 = .ok (.aload_n 1, 1) := by decide +kernel
theorem dX7_countsLike_32 : decode cX7_countsLike 32 = .ok (.getfield 43, 3) := by decide +kernel
theorem dX7_countsLike_35 : decode cX7_countsLike 35 = .ok (.if_icmp .ne 7, 3) := by decide +kernel
theorem dX7_countsLike_38 : decode cX7_countsLike 38 = .ok (.iconst 1, 1) := by decide +kernel
theorem dX7_countsLike_39 : decode cX7_countsLike 39 = .ok (.goto 4, 3) := by decide +kernel
theorem dX7_countsLike_42 : decode cX7_countsLike 42 = .ok (.iconst 0, 1) := by decide +kernel
theorem dX7_countsLike_43 : decode cX7_countsLike 43 = .ok (.ireturn, 1) := by decide +kernel
theorem dX7_wasTold_0 : decode cX7_wasTold 0 = .ok (.iload_n 1, 1) := by decide +kernel
theorem dX7_wasTold_1 : decode cX7_wasTold 1 = .ok (.ifCond .lt 37, 3) := by decide +kernel
theorem dX7_wasTold_4 : decode cX7_wasTold 4 = .ok (.iload_n 1, 1) := by decide +kernel
theorem dX7_wasTold_5 : decode cX7_wasTold 5 = .ok (.bipush 100, 2) := by decide +kernel
theorem dX7_wasTold_7 : decode cX7_wasTold 7 = .ok (.if_icmp .ge 31, 3) := by decide +kernel
theorem dX7_wasTold_10 : decode cX7_wasTold 10 = .ok (.aload_n 0, 1) := by decide +kernel
theorem dX7_wasTold_11 : decode cX7_wasTold 11 = .ok (.getfield 22, 3) := by decide +kernel
theorem dX7_wasTold_14 : decode cX7_wasTold 14 = .ok (.iload_n 1, 1) := by decide +kernel
theorem dX7_wasTold_15 : decode cX7_wasTold 15 = .ok (.laload, 1) := by decide +kernel
theorem dX7_wasTold_16 : decode cX7_wasTold 16 = .ok (.ldc2_w 28, 3) := by decide +kernel
theorem dX7_wasTold_19 : decode cX7_wasTold 19 = .ok (.lcmp, 1) := by decide +kernel
theorem dX7_wasTold_20 : decode cX7_wasTold 20 = .ok (.ifCond .eq 18, 3) := by decide +kernel
theorem dX7_wasTold_23 : decode cX7_wasTold 23 = .ok (.aload_n 0, 1) := by decide +kernel
theorem dX7_wasTold_24 : decode cX7_wasTold 24 = .ok (.getfield 18, 3) := by decide +kernel
theorem dX7_wasTold_27 : decode cX7_wasTold 27 = .ok (.iload_n 1, 1) := by decide +kernel
theorem dX7_wasTold_28 : decode cX7_wasTold 28 = .ok (.laload, 1) := by decide +kernel
theorem dX7_wasTold_29 : decode cX7_wasTold 29 = .ok (.lload_n 2, 1) := by decide +kernel
theorem dX7_wasTold_30 : decode cX7_wasTold 30 = .ok (.lcmp, 1) := by decide +kernel
theorem dX7_wasTold_31 : decode cX7_wasTold 31 = .ok (.ifCond .ne 7, 3) := by decide +kernel
theorem dX7_wasTold_34 : decode cX7_wasTold 34 = .ok (.iconst 1, 1) := by decide +kernel
theorem dX7_wasTold_35 : decode cX7_wasTold 35 = .ok (.goto 4, 3) := by decide +kernel
theorem dX7_wasTold_38 : decode cX7_wasTold 38 = .ok (.iconst 0, 1) := by decide +kernel
theorem dX7_wasTold_39 : decode cX7_wasTold 39 = .ok (.ireturn, 1) := by decide +kernel
theorem dX7_toldAtLast_0 : decode cX7_toldAtLast 0 = .ok (.iload_n 1, 1) := by decide +kernel
theorem dX7_toldAtLast_1 : decode cX7_toldAtLast 1 = .ok (.ifCond .lt 18, 3) := by decide +kernel
theorem dX7_toldAtLast_4 : decode cX7_toldAtLast 4 = .ok (.iload_n 1, 1) := by decide +kernel
theorem dX7_toldAtLast_5 : decode cX7_toldAtLast 5 = .ok (.bipush 100, 2) := by decide +kernel
theorem dX7_toldAtLast_7 : decode cX7_toldAtLast 7 = .ok (.if_icmp .ge 12, 3) := by decide +kernel
theorem dX7_toldAtLast_10 : decode cX7_toldAtLast 10 = .ok (.aload_n 0, 1) := by decide +kernel
theorem dX7_toldAtLast_11 : decode cX7_toldAtLast 11 = .ok (.getfield 22, 3) := by decide +kernel
theorem dX7_toldAtLast_14 : decode cX7_toldAtLast 14 = .ok (.iload_n 1, 1) := by decide +kernel
theorem dX7_toldAtLast_15 : decode cX7_toldAtLast 15 = .ok (.laload, 1) := by decide +kernel
theorem dX7_toldAtLast_16 : decode cX7_toldAtLast 16 = .ok (.goto 6, 3) := by decide +kernel
theorem dX7_toldAtLast_19 : decode cX7_toldAtLast 19 = .ok (.ldc2_w 28, 3) := by decide +kernel
theorem dX7_toldAtLast_22 : decode cX7_toldAtLast 22 = .ok (.lreturn, 1) := by decide +kernel
theorem dX7_tell_0 : decode cX7_tell 0 = .ok (.iload_n 1, 1) := by decide +kernel
theorem dX7_tell_1 : decode cX7_tell 1 = .ok (.ifCond .lt 24, 3) := by decide +kernel
theorem dX7_tell_4 : decode cX7_tell 4 = .ok (.iload_n 1, 1) := by decide +kernel
theorem dX7_tell_5 : decode cX7_tell 5 = .ok (.bipush 100, 2) := by decide +kernel
theorem dX7_tell_7 : decode cX7_tell 7 = .ok (.if_icmp .ge 18, 3) := by decide +kernel
theorem dX7_tell_10 : decode cX7_tell 10 = .ok (.aload_n 0, 1) := by decide +kernel
theorem dX7_tell_11 : decode cX7_tell 11 = .ok (.getfield 18, 3) := by decide +kernel
theorem dX7_tell_14 : decode cX7_tell 14 = .ok (.iload_n 1, 1) := by decide +kernel
theorem dX7_tell_15 : decode cX7_tell 15 = .ok (.lload_n 2, 1) := by decide +kernel
theorem dX7_tell_16 : decode cX7_tell 16 = .ok (.lastore, 1) := by decide +kernel
theorem dX7_tell_17 : decode cX7_tell 17 = .ok (.aload_n 0, 1) := by decide +kernel
theorem dX7_tell_18 : decode cX7_tell 18 = .ok (.getfield 22, 3) := by decide +kernel
theorem dX7_tell_21 : decode cX7_tell 21 = .ok (.iload_n 1, 1) := by decide +kernel
theorem dX7_tell_22 : decode cX7_tell 22 = .ok (.lload 4, 2) := by decide +kernel
theorem dX7_tell_24 : decode cX7_tell 24 = .ok (.lastore, 1) := by decide +kernel
theorem dX7_tell_25 : decode cX7_tell 25 = .ok (.return_, 1) := by decide +kernel
theorem dX8_init_0 : decode cX8_init 0 = .ok (.aload_n 0, 1) := by decide +kernel
theorem dX8_init_1 : decode cX8_init 1 = .ok (.invokespecial 3, 3) := by decide +kernel
theorem dX8_init_4 : decode cX8_init 4 = .ok (.aload_n 0, 1) := by decide +kernel
theorem dX8_init_5 : decode cX8_init 5 = .ok (.aload_n 1, 1) := by decide +kernel
theorem dX8_init_6 : decode cX8_init 6 = .ok (.putfield 9, 3) := by decide +kernel
theorem dX8_init_9 : decode cX8_init 9 = .ok (.aload_n 0, 1) := by decide +kernel
theorem dX8_init_10 : decode cX8_init 10 = .ok (.aload_n 2, 1) := by decide +kernel
theorem dX8_init_11 : decode cX8_init 11 = .ok (.putfield 15, 3) := by decide +kernel
theorem dX8_init_14 : decode cX8_init 14 = .ok (.return_, 1) := by decide +kernel
theorem dX8_readBook_0 : decode cX8_readBook 0 = .ok (.aload_n 2, 1) := by decide +kernel
theorem dX8_readBook_1 : decode cX8_readBook 1 = .ok (.invokevirtual 19, 3) := by decide +kernel
theorem dX8_readBook_4 : decode cX8_readBook 4 = .ok (.aload_n 0, 1) := by decide +kernel
theorem dX8_readBook_5 : decode cX8_readBook 5 = .ok (.iload_n 1, 1) := by decide +kernel
theorem dX8_readBook_6 : decode cX8_readBook 6 = .ok (.aload_n 2, 1) := by decide +kernel
theorem dX8_readBook_7 : decode cX8_readBook 7 = .ok (.invokevirtual 24, 3) := by decide +kernel
theorem dX8_readBook_10 : decode cX8_readBook 10 = .ok (.iconst 0, 1) := by decide +kernel
theorem dX8_readBook_11 : decode cX8_readBook 11 = .ok (.istore_n 3, 1) := by decide +kernel
theorem dX8_readBook_12 : decode cX8_readBook 12 = .ok (.iload_n 3, 1) := by decide +kernel
theorem dX8_readBook_13 : decode cX8_readBook 13 = .ok (.sipush 500, 3) := by decide +kernel
theorem dX8_readBook_16 : decode cX8_readBook 16 = .ok (.if_icmp .gt 44, 3) := by decide +kernel
theorem dX8_readBook_19 : decode cX8_readBook 19 = .ok (.aload_n 0, 1) := by decide +kernel
theorem dX8_readBook_20 : decode cX8_readBook 20 = .ok (.invokevirtual 28, 3) := by decide +kernel
theorem dX8_readBook_23 : decode cX8_readBook 23 = .ok (.ifCond .eq 37, 3) := by decide +kernel
theorem dX8_readBook_26 : decode cX8_readBook 26 = .ok (.aload_n 0, 1) := by decide +kernel
theorem dX8_readBook_27 : decode cX8_readBook 27 = .ok (.getfield 32, 3) := by decide +kernel
theorem dX8_readBook_30 : decode cX8_readBook 30 = .ok (.ifCond .ne 5, 3) := by decide +kernel
theorem dX8_readBook_33 : decode cX8_readBook 33 = .ok (.iconst 1, 1) := by decide +kernel
theorem dX8_readBook_34 : decode cX8_readBook 34 = .ok (.ireturn, 1) := by decide +kernel
theorem dX8_readBook_35 : decode cX8_readBook 35 = .ok (.aload_n 0, 1) := by decide +kernel
theorem dX8_readBook_36 : decode cX8_readBook 36 = .ok (.bipush 59, 2) := by decide +kernel
theorem dX8_readBook_38 : decode cX8_readBook 38 = .ok (.invokevirtual 36, 3) := by decide +kernel
theorem dX8_readBook_41 : decode cX8_readBook 41 = .ok (.ifCond .ne 9, 3) := by decide +kernel
theorem dX8_readBook_44 : decode cX8_readBook 44 = .ok (.aload_n 0, 1) := by decide +kernel
theorem dX8_readBook_45 : decode cX8_readBook 45 = .ok (.iconst 1, 1) := by decide +kernel
theorem dX8_readBook_46 : decode cX8_readBook 46 = .ok (.invokevirtual 40, 3) := by decide +kernel
theorem dX8_readBook_49 : decode cX8_readBook 49 = .ok (.ireturn, 1) := by decide +kernel
theorem dX8_readBook_50 : decode cX8_readBook 50 = .ok (.aload_n 0, 1) := by decide +kernel
theorem dX8_readBook_51 : decode cX8_readBook 51 = .ok (.invokevirtual 43, 3) := by decide +kernel
theorem dX8_readBook_54 : decode cX8_readBook 54 = .ok (.iinc 3 1, 3) := by decide +kernel
theorem dX8_readBook_57 : decode cX8_readBook 57 = .ok (.goto (-45), 3) := by decide +kernel
theorem dX8_readBook_60 : decode cX8_readBook 60 = .ok (.iconst 0, 1) := by decide +kernel
theorem dX8_readBook_61 : decode cX8_readBook 61 = .ok (.ireturn, 1) := by decide +kernel
theorem dX8_readTable_0 : decode cX8_readTable 0 = .ok (.aload_n 2, 1) := by decide +kernel
theorem dX8_readTable_1 : decode cX8_readTable 1 = .ok (.invokevirtual 46, 3) := by decide +kernel
theorem dX8_readTable_4 : decode cX8_readTable 4 = .ok (.aload_n 0, 1) := by decide +kernel
theorem dX8_readTable_5 : decode cX8_readTable 5 = .ok (.iload_n 1, 1) := by decide +kernel
theorem dX8_readTable_6 : decode cX8_readTable 6 = .ok (.aload_n 3, 1) := by decide +kernel
theorem dX8_readTable_7 : decode cX8_readTable 7 = .ok (.invokevirtual 24, 3) := by decide +kernel
theorem dX8_readTable_10 : decode cX8_readTable 10 = .ok (.aload_n 0, 1) := by decide +kernel
theorem dX8_readTable_11 : decode cX8_readTable 11 = .ok (.aload_n 2, 1) := by decide +kernel
theorem dX8_readTable_12 : decode cX8_readTable 12 = .ok (.invokevirtual 49, 3) := by decide +kernel
theorem dX8_readTable_15 : decode cX8_readTable 15 = .ok (.ifCond .eq 11, 3) := by decide +kernel
theorem dX8_readTable_18 : decode cX8_readTable 18 = .ok (.aload_n 0, 1) := by decide +kernel
theorem dX8_readTable_19 : decode cX8_readTable 19 = .ok (.aload_n 2, 1) := by decide +kernel
theorem dX8_readTable_20 : decode cX8_readTable 20 = .ok (.invokevirtual 53, 3) := by decide +kernel
theorem dX8_readTable_23 : decode cX8_readTable 23 = .ok (.ifCond .ne 5, 3) := by decide +kernel
theorem dX8_readTable_26 : decode cX8_readTable 26 = .ok (.iconst 0, 1) := by decide +kernel
theorem dX8_readTable_27 : decode cX8_readTable 27 = .ok (.ireturn, 1) := by decide +kernel
theorem dX8_readTable_28 : decode cX8_readTable 28 = .ok (.aload_n 0, 1) := by decide +kernel
theorem dX8_readTable_29 : decode cX8_readTable 29 = .ok (.ldc2_w 56, 3) := by decide +kernel
theorem dX8_readTable_32 : decode cX8_readTable 32 = .ok (.invokevirtual 58, 3) := by decide +kernel
theorem dX8_readTable_35 : decode cX8_readTable 35 = .ok (.ifCond .eq 20, 3) := by decide +kernel
theorem dX8_readTable_38 : decode cX8_readTable 38 = .ok (.aload_n 0, 1) := by decide +kernel
theorem dX8_readTable_39 : decode cX8_readTable 39 = .ok (.invokevirtual 43, 3) := by decide +kernel
theorem dX8_readTable_42 : decode cX8_readTable 42 = .ok (.aload_n 0, 1) := by decide +kernel
theorem dX8_readTable_43 : decode cX8_readTable 43 = .ok (.aload_n 2, 1) := by decide +kernel
theorem dX8_readTable_44 : decode cX8_readTable 44 = .ok (.getfield 62, 3) := by decide +kernel
theorem dX8_readTable_47 : decode cX8_readTable 47 = .ok (.invokevirtual 66, 3) := by decide +kernel
theorem dX8_readTable_50 : decode cX8_readTable 50 = .ok (.ifCond .ne 5, 3) := by decide +kernel
theorem dX8_readTable_53 : decode cX8_readTable 53 = .ok (.iconst 0, 1) := by decide +kernel
theorem dX8_readTable_54 : decode cX8_readTable 54 = .ok (.ireturn, 1) := by decide +kernel
theorem dX8_readTable_55 : decode cX8_readTable 55 = .ok (.aload_n 0, 1) := by decide +kernel
theorem dX8_readTable_56 : decode cX8_readTable 56 = .ok (.getfield 32, 3) := by decide +kernel
theorem dX8_readTable_59 : decode cX8_readTable 59 = .ok (.ifCond .eq 11, 3) := by decide +kernel
theorem dX8_readTable_62 : decode cX8_readTable 62 = .ok (.aload_n 0, 1) := by decide +kernel
theorem dX8_readTable_63 : decode cX8_readTable 63 = .ok (.iconst 1, 1) := by decide +kernel
theorem dX8_readTable_64 : decode cX8_readTable 64 = .ok (.invokevirtual 40, 3) := by decide +kernel
theorem dX8_readTable_67 : decode cX8_readTable 67 = .ok (.ifCond .eq 7, 3) := by decide +kernel
theorem dX8_readTable_70 : decode cX8_readTable 70 = .ok (.iconst 1, 1) := by decide +kernel
theorem dX8_readTable_71 : decode cX8_readTable 71 = .ok (.goto 4, 3) := by decide +kernel
theorem dX8_readTable_74 : decode cX8_readTable 74 = .ok (.iconst 0, 1) := by decide +kernel
theorem dX8_readTable_75 : decode cX8_readTable 75 = .ok (.ireturn, 1) := by decide +kernel
theorem dX8_begin_0 : decode cX8_begin 0 = .ok (.aload_n 0, 1) := by decide +kernel
theorem dX8_begin_1 : decode cX8_begin 1 = .ok (.aload_n 2, 1) := by decide +kernel
theorem dX8_begin_2 : decode cX8_begin 2 = .ok (.putfield 15, 3) := by decide +kernel
theorem dX8_begin_5 : decode cX8_begin 5 = .ok (.aload_n 0, 1) := by decide +kernel
theorem dX8_begin_6 : decode cX8_begin 6 = .ok (.iconst 0, 1) := by decide +kernel
theorem dX8_begin_7 : decode cX8_begin 7 = .ok (.putfield 70, 3) := by decide +kernel
theorem dX8_begin_10 : decode cX8_begin 10 = .ok (.aload_n 0, 1) := by decide +kernel
theorem dX8_begin_11 : decode cX8_begin 11 = .ok (.iload_n 1, 1) := by decide +kernel
theorem dX8_begin_12 : decode cX8_begin 12 = .ok (.aload_n 0, 1) := by decide +kernel
theorem dX8_begin_13 : decode cX8_begin 13 = .ok (.getfield 9, 3) := by decide +kernel
theorem dX8_begin_16 : decode cX8_begin 16 = .ok (.arraylength, 1) := by decide +kernel
theorem dX8_begin_17 : decode cX8_begin 17 = .ok (.invokestatic 73, 3) := by decide +kernel
theorem dX8_begin_20 : decode cX8_begin 20 = .ok (.putfield 79, 3) := by decide +kernel
theorem dX8_begin_23 : decode cX8_begin 23 = .ok (.aload_n 0, 1) := by decide +kernel
theorem dX8_begin_24 : decode cX8_begin 24 = .ok (.iconst 0, 1) := by decide +kernel
theorem dX8_begin_25 : decode cX8_begin 25 = .ok (.putfield 82, 3) := by decide +kernel
theorem dX8_begin_28 : decode cX8_begin 28 = .ok (.aload_n 0, 1) := by decide +kernel
theorem dX8_begin_29 : decode cX8_begin 29 = .ok (.invokevirtual 43, 3) := by decide +kernel
theorem dX8_begin_32 : decode cX8_begin 32 = .ok (.return_, 1) := by decide +kernel
theorem dX8_fail_0 : decode cX8_fail 0 = .ok (.aload_n 0, 1) := by decide +kernel
theorem dX8_fail_1 : decode cX8_fail 1 = .ok (.iload_n 1, 1) := by decide +kernel
theorem dX8_fail_2 : decode cX8_fail 2 = .ok (.putfield 70, 3) := by decide +kernel
theorem dX8_fail_5 : decode cX8_fail 5 = .ok (.iconst 0, 1) := by decide +kernel
theorem dX8_fail_6 : decode cX8_fail 6 = .ok (.ireturn, 1) := by decide +kernel
theorem dX8_readLine_0 : decode cX8_readLine 0 = .ok (.aload_n 0, 1) := by decide +kernel
theorem dX8_readLine_1 : decode cX8_readLine 1 = .ok (.ldc2_w 85, 3) := by decide +kernel
theorem dX8_readLine_4 : decode cX8_readLine 4 = .ok (.invokevirtual 58, 3) := by decide +kernel
theorem dX8_readLine_7 : decode cX8_readLine 7 = .ok (.ifCond .eq 12, 3) := by decide +kernel
theorem dX8_readLine_10 : decode cX8_readLine 10 = .ok (.aload_n 0, 1) := by decide +kernel
theorem dX8_readLine_11 : decode cX8_readLine 11 = .ok (.invokevirtual 43, 3) := by decide +kernel
theorem dX8_readLine_14 : decode cX8_readLine 14 = .ok (.aload_n 0, 1) := by decide +kernel
theorem dX8_readLine_15 : decode cX8_readLine 15 = .ok (.invokevirtual 87, 3) := by decide +kernel
theorem dX8_readLine_18 : decode cX8_readLine 18 = .ok (.ireturn, 1) := by decide +kernel
theorem dX8_readLine_19 : decode cX8_readLine 19 = .ok (.aload_n 0, 1) := by decide +kernel
theorem dX8_readLine_20 : decode cX8_readLine 20 = .ok (.ldc2_w 90, 3) := by decide +kernel
theorem dX8_readLine_23 : decode cX8_readLine 23 = .ok (.invokevirtual 58, 3) := by decide +kernel
theorem dX8_readLine_26 : decode cX8_readLine 26 = .ok (.ifCond .ne 9, 3) := by decide +kernel
theorem dX8_readLine_29 : decode cX8_readLine 29 = .ok (.aload_n 0, 1) := by decide +kernel
theorem dX8_readLine_30 : decode cX8_readLine 30 = .ok (.iconst 1, 1) := by decide +kernel
theorem dX8_readLine_31 : decode cX8_readLine 31 = .ok (.invokevirtual 40, 3) := by decide +kernel
theorem dX8_readLine_34 : decode cX8_readLine 34 = .ok (.ireturn, 1) := by decide +kernel
theorem dX8_readLine_35 : decode cX8_readLine 35 = .ok (.aload_n 0, 1) := by decide +kernel
theorem dX8_readLine_36 : decode cX8_readLine 36 = .ok (.getfield 15, 3) := by decide +kernel
theorem dX8_readLine_39 : decode cX8_readLine 39 = .ok (.getfield 92, 3) := by decide +kernel
theorem dX8_readLine_42 : decode cX8_readLine 42 = .ok (.ifCond .lt 15, 3) := by decide +kernel
theorem dX8_readLine_45 : decode cX8_readLine 45 = .ok (.aload_n 0, 1) := by decide +kernel
theorem dX8_readLine_46 : decode cX8_readLine 46 = .ok (.getfield 15, 3) := by decide +kernel
theorem dX8_readLine_49 : decode cX8_readLine 49 = .ok (.getfield 92, 3) := by decide +kernel
theorem dX8_readLine_52 : decode cX8_readLine 52 = .ok (.bipush 12, 2) := by decide +kernel
theorem dX8_readLine_54 : decode cX8_readLine 54 = .ok (.if_icmp .lt 9, 3) := by decide +kernel
theorem dX8_readLine_57 : decode cX8_readLine 57 = .ok (.aload_n 0, 1) := by decide +kernel
theorem dX8_readLine_58 : decode cX8_readLine 58 = .ok (.iconst 5, 1) := by decide +kernel
theorem dX8_readLine_59 : decode cX8_readLine 59 = .ok (.invokevirtual 40, 3) := by decide +kernel
theorem dX8_readLine_62 : decode cX8_readLine 62 = .ok (.ireturn, 1) := by decide +kernel
theorem dX8_readLine_63 : decode cX8_readLine 63 = .ok (.aload_n 0, 1) := by decide +kernel
theorem dX8_readLine_64 : decode cX8_readLine 64 = .ok (.getfield 15, 3) := by decide +kernel
theorem dX8_readLine_67 : decode cX8_readLine 67 = .ok (.getfield 95, 3) := by decide +kernel
theorem dX8_readLine_70 : decode cX8_readLine 70 = .ok (.aload_n 0, 1) := by decide +kernel
theorem dX8_readLine_71 : decode cX8_readLine 71 = .ok (.getfield 15, 3) := by decide +kernel
theorem dX8_readLine_74 : decode cX8_readLine 74 = .ok (.getfield 92, 3) := by decide +kernel
theorem dX8_readLine_77 : decode cX8_readLine 77 = .ok (.aaload, 1) := by decide +kernel
theorem dX8_readLine_78 : decode cX8_readLine 78 = .ok (.astore_n 1, 1) := by decide +kernel
theorem dX8_readLine_79 : decode cX8_readLine 79 = .ok (.aload_n 1, 1) := by decide +kernel
theorem dX8_readLine_80 : decode cX8_readLine 80 = .ok (.invokevirtual 99, 3) := by decide +kernel
theorem dX8_readLine_83 : decode cX8_readLine 83 = .ok (.aload_n 0, 1) := by decide +kernel
theorem dX8_readLine_84 : decode cX8_readLine 84 = .ok (.invokevirtual 43, 3) := by decide +kernel
theorem dX8_readLine_87 : decode cX8_readLine 87 = .ok (.aload_n 0, 1) := by decide +kernel
theorem dX8_readLine_88 : decode cX8_readLine 88 = .ok (.aload_n 1, 1) := by decide +kernel
theorem dX8_readLine_89 : decode cX8_readLine 89 = .ok (.invokevirtual 66, 3) := by decide +kernel
theorem dX8_readLine_92 : decode cX8_readLine 92 = .ok (.ifCond .ne 5, 3) := by decide +kernel
theorem dX8_readLine_95 : decode cX8_readLine 95 = .ok (.iconst 0, 1) := by decide +kernel
theorem dX8_readLine_96 : decode cX8_readLine 96 = .ok (.ireturn, 1) := by decide +kernel
theorem dX8_readLine_97 : decode cX8_readLine 97 = .ok (.aload_n 0, 1) := by decide +kernel
theorem dX8_readLine_98 : decode cX8_readLine 98 = .ok (.getfield 15, 3) := by decide +kernel
theorem dX8_readLine_101 : decode cX8_readLine 101 = .ok (.dup, 1) := by decide +kernel
theorem dX8_readLine_102 : decode cX8_readLine 102 = .ok (.getfield 92, 3) := by decide +kernel
theorem dX8_readLine_105 : decode cX8_readLine 105 = .ok (.iconst 1, 1) := by decide +kernel
theorem dX8_readLine_106 : decode cX8_readLine 106 = .ok (.iadd, 1) := by decide +kernel
theorem dX8_readLine_107 : decode cX8_readLine 107 = .ok (.putfield 92, 3) := by decide +kernel
theorem dX8_readLine_110 : decode cX8_readLine 110 = .ok (.iconst 1, 1) := by decide +kernel
theorem dX8_readLine_111 : decode cX8_readLine 111 = .ok (.ireturn, 1) := by decide +kernel
theorem dX8_readField_0 : decode cX8_readField 0 = .ok (.aload_n 0, 1) := by decide +kernel
theorem dX8_readField_1 : decode cX8_readField 1 = .ok (.invokevirtual 102, 3) := by decide +kernel
theorem dX8_readField_4 : decode cX8_readField 4 = .ok (.ifCond .ne 9, 3) := by decide +kernel
theorem dX8_readField_7 : decode cX8_readField 7 = .ok (.aload_n 0, 1) := by decide +kernel
theorem dX8_readField_8 : decode cX8_readField 8 = .ok (.iconst 1, 1) := by decide +kernel
theorem dX8_readField_9 : decode cX8_readField 9 = .ok (.invokevirtual 40, 3) := by decide +kernel
theorem dX8_readField_12 : decode cX8_readField 12 = .ok (.ireturn, 1) := by decide +kernel
theorem dX8_readField_13 : decode cX8_readField 13 = .ok (.aload_n 0, 1) := by decide +kernel
theorem dX8_readField_14 : decode cX8_readField 14 = .ok (.getfield 15, 3) := by decide +kernel
theorem dX8_readField_17 : decode cX8_readField 17 = .ok (.aload_n 0, 1) := by decide +kernel
theorem dX8_readField_18 : decode cX8_readField 18 = .ok (.getfield 105, 3) := by decide +kernel
theorem dX8_readField_21 : decode cX8_readField 21 = .ok (.invokevirtual 109, 3) := by decide +kernel
theorem dX8_readField_24 : decode cX8_readField 24 = .ok (.iconst (-1), 1) := by decide +kernel
theorem dX8_readField_25 : decode cX8_readField 25 = .ok (.if_icmp .eq 9, 3) := by decide +kernel
theorem dX8_readField_28 : decode cX8_readField 28 = .ok (.aload_n 0, 1) := by decide +kernel
theorem dX8_readField_29 : decode cX8_readField 29 = .ok (.iconst 3, 1) := by decide +kernel
theorem dX8_readField_30 : decode cX8_readField 30 = .ok (.invokevirtual 40, 3) := by decide +kernel
theorem dX8_readField_33 : decode cX8_readField 33 = .ok (.ireturn, 1) := by decide +kernel
theorem dX8_readField_34 : decode cX8_readField 34 = .ok (.aload_n 0, 1) := by decide +kernel
theorem dX8_readField_35 : decode cX8_readField 35 = .ok (.getfield 15, 3) := by decide +kernel
theorem dX8_readField_38 : decode cX8_readField 38 = .ok (.getfield 113, 3) := by decide +kernel
theorem dX8_readField_41 : decode cX8_readField 41 = .ok (.bipush 6, 2) := by decide +kernel
theorem dX8_readField_43 : decode cX8_readField 43 = .ok (.if_icmp .lt 9, 3) := by decide +kernel
theorem dX8_readField_46 : decode cX8_readField 46 = .ok (.aload_n 0, 1) := by decide +kernel
theorem dX8_readField_47 : decode cX8_readField 47 = .ok (.iconst 5, 1) := by decide +kernel
theorem dX8_readField_48 : decode cX8_readField 48 = .ok (.invokevirtual 40, 3) := by decide +kernel
theorem dX8_readField_51 : decode cX8_readField 51 = .ok (.ireturn, 1) := by decide +kernel
theorem dX8_readField_52 : decode cX8_readField 52 = .ok (.aload_n 0, 1) := by decide +kernel
theorem dX8_readField_53 : decode cX8_readField 53 = .ok (.getfield 105, 3) := by decide +kernel
theorem dX8_readField_56 : decode cX8_readField 56 = .ok (.lstore_n 1, 1) := by decide +kernel
theorem dX8_readField_57 : decode cX8_readField 57 = .ok (.aload_n 0, 1) := by decide +kernel
theorem dX8_readField_58 : decode cX8_readField 58 = .ok (.invokevirtual 43, 3) := by decide +kernel
theorem dX8_readField_61 : decode cX8_readField 61 = .ok (.aload_n 0, 1) := by decide +kernel
theorem dX8_readField_62 : decode cX8_readField 62 = .ok (.ldc2_w 116, 3) := by decide +kernel
theorem dX8_readField_65 : decode cX8_readField 65 = .ok (.invokevirtual 118, 3) := by decide +kernel
theorem dX8_readField_68 : decode cX8_readField 68 = .ok (.ifCond .ne 5, 3) := by decide +kernel
theorem dX8_readField_71 : decode cX8_readField 71 = .ok (.iconst 0, 1) := by decide +kernel
theorem dX8_readField_72 : decode cX8_readField 72 = .ok (.ireturn, 1) := by decide +kernel
theorem dX8_readField_73 : decode cX8_readField 73 = .ok (.aload_n 0, 1) := by decide +kernel
theorem dX8_readField_74 : decode cX8_readField 74 = .ok (.getfield 121, 3) := by decide +kernel
theorem dX8_readField_77 : decode cX8_readField 77 = .ok (.istore_n 3, 1) := by decide +kernel
theorem dX8_readField_78 : decode cX8_readField 78 = .ok (.aload_n 0, 1) := by decide +kernel
theorem dX8_readField_79 : decode cX8_readField 79 = .ok (.getfield 15, 3) := by decide +kernel
theorem dX8_readField_82 : decode cX8_readField 82 = .ok (.getfield 124, 3) := by decide +kernel
theorem dX8_readField_85 : decode cX8_readField 85 = .ok (.iload_n 3, 1) := by decide +kernel
theorem dX8_readField_86 : decode cX8_readField 86 = .ok (.iconst 1, 1) := by decide +kernel
theorem dX8_readField_87 : decode cX8_readField 87 = .ok (.iadd, 1) := by decide +kernel
theorem dX8_readField_88 : decode cX8_readField 88 = .ok (.imul, 1) := by decide +kernel
theorem dX8_readField_89 : decode cX8_readField 89 = .ok (.sipush 20000, 3) := by decide +kernel
theorem dX8_readField_92 : decode cX8_readField 92 = .ok (.if_icmp .le 9, 3) := by decide +kernel
theorem dX8_readField_95 : decode cX8_readField 95 = .ok (.aload_n 0, 1) := by decide +kernel
theorem dX8_readField_96 : decode cX8_readField 96 = .ok (.iconst 5, 1) := by decide +kernel
theorem dX8_readField_97 : decode cX8_readField 97 = .ok (.invokevirtual 40, 3) := by decide +kernel
theorem dX8_readField_100 : decode cX8_readField 100 = .ok (.ireturn, 1) := by decide +kernel
theorem dX8_readField_101 : decode cX8_readField 101 = .ok (.aload_n 0, 1) := by decide +kernel
theorem dX8_readField_102 : decode cX8_readField 102 = .ok (.invokevirtual 43, 3) := by decide +kernel
theorem dX8_readField_105 : decode cX8_readField 105 = .ok (.aload_n 0, 1) := by decide +kernel
theorem dX8_readField_106 : decode cX8_readField 106 = .ok (.ldc2_w 127, 3) := by decide +kernel
theorem dX8_readField_109 : decode cX8_readField 109 = .ok (.invokevirtual 118, 3) := by decide +kernel
theorem dX8_readField_112 : decode cX8_readField 112 = .ok (.ifCond .ne 5, 3) := by decide +kernel
theorem dX8_readField_115 : decode cX8_readField 115 = .ok (.iconst 0, 1) := by decide +kernel
theorem dX8_readField_116 : decode cX8_readField 116 = .ok (.ireturn, 1) := by decide +kernel
theorem dX8_readField_117 : decode cX8_readField 117 = .ok (.aload_n 0, 1) := by decide +kernel
theorem dX8_readField_118 : decode cX8_readField 118 = .ok (.getfield 15, 3) := by decide +kernel
theorem dX8_readField_121 : decode cX8_readField 121 = .ok (.lload_n 1, 1) := by decide +kernel
theorem dX8_readField_122 : decode cX8_readField 122 = .ok (.iload_n 3, 1) := by decide +kernel
theorem dX8_readField_123 : decode cX8_readField 123 = .ok (.aload_n 0, 1) := by decide +kernel
theorem dX8_readField_124 : decode cX8_readField 124 = .ok (.getfield 121, 3) := by decide +kernel
theorem dX8_readField_127 : decode cX8_readField 127 = .ok (.invokevirtual 129, 3) := by decide +kernel
theorem dX8_readField_130 : decode cX8_readField 130 = .ok (.aload_n 0, 1) := by decide +kernel
theorem dX8_readField_131 : decode cX8_readField 131 = .ok (.invokevirtual 43, 3) := by decide +kernel
theorem dX8_readField_134 : decode cX8_readField 134 = .ok (.iconst 1, 1) := by decide +kernel
theorem dX8_readField_135 : decode cX8_readField 135 = .ok (.ireturn, 1) := by decide +kernel
theorem dX8_readDigitBehind_0 : decode cX8_readDigitBehind 0 = .ok (.aload_n 0, 1) := by decide +kernel
theorem dX8_readDigitBehind_1 : decode cX8_readDigitBehind 1 = .ok (.lload_n 1, 1) := by decide +kernel
theorem dX8_readDigitBehind_2 : decode cX8_readDigitBehind 2 = .ok (.invokevirtual 58, 3) := by decide +kernel
theorem dX8_readDigitBehind_5 : decode cX8_readDigitBehind 5 = .ok (.ifCond .ne 9, 3) := by decide +kernel
theorem dX8_readDigitBehind_8 : decode cX8_readDigitBehind 8 = .ok (.aload_n 0, 1) := by decide +kernel
theorem dX8_readDigitBehind_9 : decode cX8_readDigitBehind 9 = .ok (.iconst 1, 1) := by decide +kernel
theorem dX8_readDigitBehind_10 : decode cX8_readDigitBehind 10 = .ok (.invokevirtual 40, 3) := by decide +kernel
theorem dX8_readDigitBehind_13 : decode cX8_readDigitBehind 13 = .ok (.ireturn, 1) := by decide +kernel
theorem dX8_readDigitBehind_14 : decode cX8_readDigitBehind 14 = .ok (.aload_n 0, 1) := by decide +kernel
theorem dX8_readDigitBehind_15 : decode cX8_readDigitBehind 15 = .ok (.invokevirtual 43, 3) := by decide +kernel
theorem dX8_readDigitBehind_18 : decode cX8_readDigitBehind 18 = .ok (.aload_n 0, 1) := by decide +kernel
theorem dX8_readDigitBehind_19 : decode cX8_readDigitBehind 19 = .ok (.getfield 32, 3) := by decide +kernel
theorem dX8_readDigitBehind_22 : decode cX8_readDigitBehind 22 = .ok (.iconst 2, 1) := by decide +kernel
theorem dX8_readDigitBehind_23 : decode cX8_readDigitBehind 23 = .ok (.if_icmp .eq 9, 3) := by decide +kernel
theorem dX8_readDigitBehind_26 : decode cX8_readDigitBehind 26 = .ok (.aload_n 0, 1) := by decide +kernel
theorem dX8_readDigitBehind_27 : decode cX8_readDigitBehind 27 = .ok (.iconst 1, 1) := by decide +kernel
theorem dX8_readDigitBehind_28 : decode cX8_readDigitBehind 28 = .ok (.invokevirtual 40, 3) := by decide +kernel
theorem dX8_readDigitBehind_31 : decode cX8_readDigitBehind 31 = .ok (.ireturn, 1) := by decide +kernel
theorem dX8_readDigitBehind_32 : decode cX8_readDigitBehind 32 = .ok (.aload_n 0, 1) := by decide +kernel
theorem dX8_readDigitBehind_33 : decode cX8_readDigitBehind 33 = .ok (.getfield 121, 3) := by decide +kernel
theorem dX8_readDigitBehind_36 : decode cX8_readDigitBehind 36 = .ok (.iconst 1, 1) := by decide +kernel
theorem dX8_readDigitBehind_37 : decode cX8_readDigitBehind 37 = .ok (.bipush 9, 2) := by decide +kernel
theorem dX8_readDigitBehind_39 : decode cX8_readDigitBehind 39 = .ok (.invokestatic 133, 3) := by decide +kernel
theorem dX8_readDigitBehind_42 : decode cX8_readDigitBehind 42 = .ok (.ifCond .ne 11, 3) := by decide +kernel
theorem dX8_readDigitBehind_45 : decode cX8_readDigitBehind 45 = .ok (.aload_n 0, 1) := by decide +kernel
theorem dX8_readDigitBehind_46 : decode cX8_readDigitBehind 46 = .ok (.iconst 4, 1) := by decide +kernel
theorem dX8_readDigitBehind_47 : decode cX8_readDigitBehind 47 = .ok (.invokevirtual 40, 3) := by decide +kernel
theorem dX8_readDigitBehind_50 : decode cX8_readDigitBehind 50 = .ok (.ifCond .eq 7, 3) := by decide +kernel
theorem dX8_readDigitBehind_53 : decode cX8_readDigitBehind 53 = .ok (.iconst 1, 1) := by decide +kernel
theorem dX8_readDigitBehind_54 : decode cX8_readDigitBehind 54 = .ok (.goto 4, 3) := by decide +kernel
theorem dX8_readDigitBehind_57 : decode cX8_readDigitBehind 57 = .ok (.iconst 0, 1) := by decide +kernel
theorem dX8_readDigitBehind_58 : decode cX8_readDigitBehind 58 = .ok (.ireturn, 1) := by decide +kernel
theorem dX8_readTest_0 : decode cX8_readTest 0 = .ok (.iconst 0, 1) := by decide +kernel
theorem dX8_readTest_1 : decode cX8_readTest 1 = .ok (.istore_n 2, 1) := by decide +kernel
theorem dX8_readTest_2 : decode cX8_readTest 2 = .ok (.iload_n 2, 1) := by decide +kernel
theorem dX8_readTest_3 : decode cX8_readTest 3 = .ok (.bipush 12, 2) := by decide +kernel
theorem dX8_readTest_5 : decode cX8_readTest 5 = .ok (.if_icmp .gt 33, 3) := by decide +kernel
theorem dX8_readTest_8 : decode cX8_readTest 8 = .ok (.aload_n 0, 1) := by decide +kernel
theorem dX8_readTest_9 : decode cX8_readTest 9 = .ok (.aload_n 1, 1) := by decide +kernel
theorem dX8_readTest_10 : decode cX8_readTest 10 = .ok (.invokevirtual 137, 3) := by decide +kernel
theorem dX8_readTest_13 : decode cX8_readTest 13 = .ok (.ifCond .eq 25, 3) := by decide +kernel
theorem dX8_readTest_16 : decode cX8_readTest 16 = .ok (.aload_n 0, 1) := by decide +kernel
theorem dX8_readTest_17 : decode cX8_readTest 17 = .ok (.ldc2_w 140, 3) := by decide +kernel
theorem dX8_readTest_20 : decode cX8_readTest 20 = .ok (.invokevirtual 58, 3) := by decide +kernel
theorem dX8_readTest_23 : decode cX8_readTest 23 = .ok (.ifCond .ne 5, 3) := by decide +kernel
theorem dX8_readTest_26 : decode cX8_readTest 26 = .ok (.iconst 1, 1) := by decide +kernel
theorem dX8_readTest_27 : decode cX8_readTest 27 = .ok (.ireturn, 1) := by decide +kernel
theorem dX8_readTest_28 : decode cX8_readTest 28 = .ok (.aload_n 0, 1) := by decide +kernel
theorem dX8_readTest_29 : decode cX8_readTest 29 = .ok (.invokevirtual 43, 3) := by decide +kernel
theorem dX8_readTest_32 : decode cX8_readTest 32 = .ok (.iinc 2 1, 3) := by decide +kernel
theorem dX8_readTest_35 : decode cX8_readTest 35 = .ok (.goto (-33), 3) := by decide +kernel
theorem dX8_readTest_38 : decode cX8_readTest 38 = .ok (.iconst 0, 1) := by decide +kernel
theorem dX8_readTest_39 : decode cX8_readTest 39 = .ok (.ireturn, 1) := by decide +kernel
theorem dX8_readOne_0 : decode cX8_readOne 0 = .ok (.aload_n 0, 1) := by decide +kernel
theorem dX8_readOne_1 : decode cX8_readOne 1 = .ok (.invokevirtual 142, 3) := by decide +kernel
theorem dX8_readOne_4 : decode cX8_readOne 4 = .ok (.istore_n 2, 1) := by decide +kernel
theorem dX8_readOne_5 : decode cX8_readOne 5 = .ok (.iload_n 2, 1) := by decide +kernel
theorem dX8_readOne_6 : decode cX8_readOne 6 = .ok (.iconst (-1), 1) := by decide +kernel
theorem dX8_readOne_7 : decode cX8_readOne 7 = .ok (.if_icmp .ne 5, 3) := by decide +kernel
theorem dX8_readOne_10 : decode cX8_readOne 10 = .ok (.iconst 0, 1) := by decide +kernel
theorem dX8_readOne_11 : decode cX8_readOne 11 = .ok (.ireturn, 1) := by decide +kernel
theorem dX8_readOne_12 : decode cX8_readOne 12 = .ok (.aload_n 1, 1) := by decide +kernel
theorem dX8_readOne_13 : decode cX8_readOne 13 = .ok (.invokevirtual 146, 3) := by decide +kernel
theorem dX8_readOne_16 : decode cX8_readOne 16 = .ok (.ifCond .eq 9, 3) := by decide +kernel
theorem dX8_readOne_19 : decode cX8_readOne 19 = .ok (.aload_n 0, 1) := by decide +kernel
theorem dX8_readOne_20 : decode cX8_readOne 20 = .ok (.iconst 5, 1) := by decide +kernel
theorem dX8_readOne_21 : decode cX8_readOne 21 = .ok (.invokevirtual 40, 3) := by decide +kernel
theorem dX8_readOne_24 : decode cX8_readOne 24 = .ok (.ireturn, 1) := by decide +kernel
theorem dX8_readOne_25 : decode cX8_readOne 25 = .ok (.aload_n 0, 1) := by decide +kernel
theorem dX8_readOne_26 : decode cX8_readOne 26 = .ok (.invokevirtual 43, 3) := by decide +kernel
theorem dX8_readOne_29 : decode cX8_readOne 29 = .ok (.aload_n 0, 1) := by decide +kernel
theorem dX8_readOne_30 : decode cX8_readOne 30 = .ok (.bipush 61, 2) := by decide +kernel
theorem dX8_readOne_32 : decode cX8_readOne 32 = .ok (.invokevirtual 36, 3) := by decide +kernel
theorem dX8_readOne_35 : decode cX8_readOne 35 = .ok (.ifCond .ne 27, 3) := by decide +kernel
theorem dX8_readOne_38 : decode cX8_readOne 38 = .ok (.aload_n 0, 1) := by decide +kernel
theorem dX8_readOne_39 : decode cX8_readOne 39 = .ok (.bipush 60, 2) := by decide +kernel
theorem dX8_readOne_41 : decode cX8_readOne 41 = .ok (.invokevirtual 36, 3) := by decide +kernel
theorem dX8_readOne_44 : decode cX8_readOne 44 = .ok (.ifCond .ne 18, 3) := by decide +kernel
theorem dX8_readOne_47 : decode cX8_readOne 47 = .ok (.aload_n 0, 1) := by decide +kernel
theorem dX8_readOne_48 : decode cX8_readOne 48 = .ok (.bipush 62, 2) := by decide +kernel
theorem dX8_readOne_50 : decode cX8_readOne 50 = .ok (.invokevirtual 36, 3) := by decide +kernel
theorem dX8_readOne_53 : decode cX8_readOne 53 = .ok (.ifCond .ne 9, 3) := by decide +kernel
theorem dX8_readOne_56 : decode cX8_readOne 56 = .ok (.aload_n 0, 1) := by decide +kernel
theorem dX8_readOne_57 : decode cX8_readOne 57 = .ok (.iconst 1, 1) := by decide +kernel
theorem dX8_readOne_58 : decode cX8_readOne 58 = .ok (.invokevirtual 40, 3) := by decide +kernel
theorem dX8_readOne_61 : decode cX8_readOne 61 = .ok (.ireturn, 1) := by decide +kernel
theorem dX8_readOne_62 : decode cX8_readOne 62 = .ok (.aload_n 0, 1) := by decide +kernel
theorem dX8_readOne_63 : decode cX8_readOne 63 = .ok (.getfield 121, 3) := by decide +kernel
theorem dX8_readOne_66 : decode cX8_readOne 66 = .ok (.istore_n 3, 1) := by decide +kernel
theorem dX8_readOne_67 : decode cX8_readOne 67 = .ok (.aload_n 0, 1) := by decide +kernel
theorem dX8_readOne_68 : decode cX8_readOne 68 = .ok (.invokevirtual 43, 3) := by decide +kernel
theorem dX8_readOne_71 : decode cX8_readOne 71 = .ok (.aload_n 0, 1) := by decide +kernel
theorem dX8_readOne_72 : decode cX8_readOne 72 = .ok (.getfield 121, 3) := by decide +kernel
theorem dX8_readOne_75 : decode cX8_readOne 75 = .ok (.istore 4, 2) := by decide +kernel
theorem dX8_readOne_77 : decode cX8_readOne 77 = .ok (.aload_n 0, 1) := by decide +kernel
theorem dX8_readOne_78 : decode cX8_readOne 78 = .ok (.getfield 32, 3) := by decide +kernel
theorem dX8_readOne_81 : decode cX8_readOne 81 = .ok (.iconst 2, 1) := by decide +kernel
theorem dX8_readOne_82 : decode cX8_readOne 82 = .ok (.if_icmp .eq 26, 3) := by decide +kernel
theorem dX8_readOne_85 : decode cX8_readOne 85 = .ok (.aload_n 0, 1) := by decide +kernel
theorem dX8_readOne_86 : decode cX8_readOne 86 = .ok (.invokevirtual 142, 3) := by decide +kernel
theorem dX8_readOne_89 : decode cX8_readOne 89 = .ok (.istore 5, 2) := by decide +kernel
theorem dX8_readOne_91 : decode cX8_readOne 91 = .ok (.iload 5, 2) := by decide +kernel
theorem dX8_readOne_93 : decode cX8_readOne 93 = .ok (.iconst (-1), 1) := by decide +kernel
theorem dX8_readOne_94 : decode cX8_readOne 94 = .ok (.if_icmp .ne 5, 3) := by decide +kernel
theorem dX8_readOne_97 : decode cX8_readOne 97 = .ok (.iconst 0, 1) := by decide +kernel
theorem dX8_readOne_98 : decode cX8_readOne 98 = .ok (.ireturn, 1) := by decide +kernel
theorem dX8_readOne_99 : decode cX8_readOne 99 = .ok (.iconst (-1), 1) := by decide +kernel
theorem dX8_readOne_100 : decode cX8_readOne 100 = .ok (.iload 5, 2) := by decide +kernel
theorem dX8_readOne_102 : decode cX8_readOne 102 = .ok (.isub, 1) := by decide +kernel
theorem dX8_readOne_103 : decode cX8_readOne 103 = .ok (.istore 4, 2) := by decide +kernel
theorem dX8_readOne_105 : decode cX8_readOne 105 = .ok (.goto 16, 3) := by decide +kernel
theorem dX8_readOne_108 : decode cX8_readOne 108 = .ok (.iload 4, 2) := by decide +kernel
theorem dX8_readOne_110 : decode cX8_readOne 110 = .ok (.bipush 99, 2) := by decide +kernel
theorem dX8_readOne_112 : decode cX8_readOne 112 = .ok (.if_icmp .le 9, 3) := by decide +kernel
theorem dX8_readOne_115 : decode cX8_readOne 115 = .ok (.aload_n 0, 1) := by decide +kernel
theorem dX8_readOne_116 : decode cX8_readOne 116 = .ok (.iconst 4, 1) := by decide +kernel
theorem dX8_readOne_117 : decode cX8_readOne 117 = .ok (.invokevirtual 40, 3) := by decide +kernel
theorem dX8_readOne_120 : decode cX8_readOne 120 = .ok (.ireturn, 1) := by decide +kernel
theorem dX8_readOne_121 : decode cX8_readOne 121 = .ok (.aload_n 1, 1) := by decide +kernel
theorem dX8_readOne_122 : decode cX8_readOne 122 = .ok (.iload_n 2, 1) := by decide +kernel
theorem dX8_readOne_123 : decode cX8_readOne 123 = .ok (.iload_n 3, 1) := by decide +kernel
theorem dX8_readOne_124 : decode cX8_readOne 124 = .ok (.iload 4, 2) := by decide +kernel
theorem dX8_readOne_126 : decode cX8_readOne 126 = .ok (.invokevirtual 149, 3) := by decide +kernel
theorem dX8_readOne_129 : decode cX8_readOne 129 = .ok (.aload_n 0, 1) := by decide +kernel
theorem dX8_readOne_130 : decode cX8_readOne 130 = .ok (.invokevirtual 43, 3) := by decide +kernel
theorem dX8_readOne_133 : decode cX8_readOne 133 = .ok (.iconst 1, 1) := by decide +kernel
theorem dX8_readOne_134 : decode cX8_readOne 134 = .ok (.ireturn, 1) := by decide +kernel
theorem dX8_knownField_0 : decode cX8_knownField 0 = .ok (.aload_n 0, 1) := by decide +kernel
theorem dX8_knownField_1 : decode cX8_knownField 1 = .ok (.invokevirtual 102, 3) := by decide +kernel
theorem dX8_knownField_4 : decode cX8_knownField 4 = .ok (.ifCond .ne 11, 3) := by decide +kernel
theorem dX8_knownField_7 : decode cX8_knownField 7 = .ok (.aload_n 0, 1) := by decide +kernel
theorem dX8_knownField_8 : decode cX8_knownField 8 = .ok (.iconst 1, 1) := by decide +kernel
theorem dX8_knownField_9 : decode cX8_knownField 9 = .ok (.invokevirtual 40, 3) := by decide +kernel
theorem dX8_knownField_12 : decode cX8_knownField 12 = .ok (.pop, 1) := by decide +kernel
theorem dX8_knownField_13 : decode cX8_knownField 13 = .ok (.iconst (-1), 1) := by decide +kernel
theorem dX8_knownField_14 : decode cX8_knownField 14 = .ok (.ireturn, 1) := by decide +kernel
theorem dX8_knownField_15 : decode cX8_knownField 15 = .ok (.aload_n 0, 1) := by decide +kernel
theorem dX8_knownField_16 : decode cX8_knownField 16 = .ok (.getfield 15, 3) := by decide +kernel
theorem dX8_knownField_19 : decode cX8_knownField 19 = .ok (.aload_n 0, 1) := by decide +kernel
theorem dX8_knownField_20 : decode cX8_knownField 20 = .ok (.getfield 105, 3) := by decide +kernel
theorem dX8_knownField_23 : decode cX8_knownField 23 = .ok (.invokevirtual 109, 3) := by decide +kernel
theorem dX8_knownField_26 : decode cX8_knownField 26 = .ok (.istore_n 1, 1) := by decide +kernel
theorem dX8_knownField_27 : decode cX8_knownField 27 = .ok (.iload_n 1, 1) := by decide +kernel
theorem dX8_knownField_28 : decode cX8_knownField 28 = .ok (.iconst (-1), 1) := by decide +kernel
theorem dX8_knownField_29 : decode cX8_knownField 29 = .ok (.if_icmp .ne 9, 3) := by decide +kernel
theorem dX8_knownField_32 : decode cX8_knownField 32 = .ok (.aload_n 0, 1) := by decide +kernel
theorem dX8_knownField_33 : decode cX8_knownField 33 = .ok (.iconst 2, 1) := by decide +kernel
theorem dX8_knownField_34 : decode cX8_knownField 34 = .ok (.invokevirtual 40, 3) := by decide +kernel
theorem dX8_knownField_37 : decode cX8_knownField 37 = .ok (.pop, 1) := by decide +kernel
theorem dX8_knownField_38 : decode cX8_knownField 38 = .ok (.iload_n 1, 1) := by decide +kernel
theorem dX8_knownField_39 : decode cX8_knownField 39 = .ok (.ireturn, 1) := by decide +kernel
theorem dX8_readWhat_0 : decode cX8_readWhat 0 = .ok (.aload_n 0, 1) := by decide +kernel
theorem dX8_readWhat_1 : decode cX8_readWhat 1 = .ok (.ldc2_w 153, 3) := by decide +kernel
theorem dX8_readWhat_4 : decode cX8_readWhat 4 = .ok (.invokevirtual 58, 3) := by decide +kernel
theorem dX8_readWhat_7 : decode cX8_readWhat 7 = .ok (.ifCond .eq 9, 3) := by decide +kernel
theorem dX8_readWhat_10 : decode cX8_readWhat 10 = .ok (.aload_n 0, 1) := by decide +kernel
theorem dX8_readWhat_11 : decode cX8_readWhat 11 = .ok (.invokevirtual 43, 3) := by decide +kernel
theorem dX8_readWhat_14 : decode cX8_readWhat 14 = .ok (.iconst 1, 1) := by decide +kernel
theorem dX8_readWhat_15 : decode cX8_readWhat 15 = .ok (.ireturn, 1) := by decide +kernel
theorem dX8_readWhat_16 : decode cX8_readWhat 16 = .ok (.aload_n 0, 1) := by decide +kernel
theorem dX8_readWhat_17 : decode cX8_readWhat 17 = .ok (.ldc2_w 155, 3) := by decide +kernel
theorem dX8_readWhat_20 : decode cX8_readWhat 20 = .ok (.invokevirtual 58, 3) := by decide +kernel
theorem dX8_readWhat_23 : decode cX8_readWhat 23 = .ok (.ifCond .ne 9, 3) := by decide +kernel
theorem dX8_readWhat_26 : decode cX8_readWhat 26 = .ok (.aload_n 0, 1) := by decide +kernel
theorem dX8_readWhat_27 : decode cX8_readWhat 27 = .ok (.iconst 1, 1) := by decide +kernel
theorem dX8_readWhat_28 : decode cX8_readWhat 28 = .ok (.invokevirtual 40, 3) := by decide +kernel
theorem dX8_readWhat_31 : decode cX8_readWhat 31 = .ok (.ireturn, 1) := by decide +kernel
theorem dX8_readWhat_32 : decode cX8_readWhat 32 = .ok (.aload_n 0, 1) := by decide +kernel
theorem dX8_readWhat_33 : decode cX8_readWhat 33 = .ok (.invokevirtual 43, 3) := by decide +kernel
theorem dX8_readWhat_36 : decode cX8_readWhat 36 = .ok (.aload_n 1, 1) := by decide +kernel
theorem dX8_readWhat_37 : decode cX8_readWhat 37 = .ok (.aload_n 0, 1) := by decide +kernel
theorem dX8_readWhat_38 : decode cX8_readWhat 38 = .ok (.invokevirtual 142, 3) := by decide +kernel
theorem dX8_readWhat_41 : decode cX8_readWhat 41 = .ok (.putfield 157, 3) := by decide +kernel
theorem dX8_readWhat_44 : decode cX8_readWhat 44 = .ok (.aload_n 1, 1) := by decide +kernel
theorem dX8_readWhat_45 : decode cX8_readWhat 45 = .ok (.getfield 157, 3) := by decide +kernel
theorem dX8_readWhat_48 : decode cX8_readWhat 48 = .ok (.iconst (-1), 1) := by decide +kernel
theorem dX8_readWhat_49 : decode cX8_readWhat 49 = .ok (.if_icmp .ne 5, 3) := by decide +kernel
theorem dX8_readWhat_52 : decode cX8_readWhat 52 = .ok (.iconst 0, 1) := by decide +kernel
theorem dX8_readWhat_53 : decode cX8_readWhat 53 = .ok (.ireturn, 1) := by decide +kernel
theorem dX8_readWhat_54 : decode cX8_readWhat 54 = .ok (.aload_n 0, 1) := by decide +kernel
theorem dX8_readWhat_55 : decode cX8_readWhat 55 = .ok (.invokevirtual 43, 3) := by decide +kernel
theorem dX8_readWhat_58 : decode cX8_readWhat 58 = .ok (.iconst 1, 1) := by decide +kernel
theorem dX8_readWhat_59 : decode cX8_readWhat 59 = .ok (.ireturn, 1) := by decide +kernel
theorem dX8_readBy_0 : decode cX8_readBy 0 = .ok (.aload_n 0, 1) := by decide +kernel
theorem dX8_readBy_1 : decode cX8_readBy 1 = .ok (.ldc2_w 160, 3) := by decide +kernel
theorem dX8_readBy_4 : decode cX8_readBy 4 = .ok (.invokevirtual 58, 3) := by decide +kernel
theorem dX8_readBy_7 : decode cX8_readBy 7 = .ok (.ifCond .ne 5, 3) := by decide +kernel
theorem dX8_readBy_10 : decode cX8_readBy 10 = .ok (.iconst 1, 1) := by decide +kernel
theorem dX8_readBy_11 : decode cX8_readBy 11 = .ok (.ireturn, 1) := by decide +kernel
theorem dX8_readBy_12 : decode cX8_readBy 12 = .ok (.aload_n 0, 1) := by decide +kernel
theorem dX8_readBy_13 : decode cX8_readBy 13 = .ok (.invokevirtual 43, 3) := by decide +kernel
theorem dX8_readBy_16 : decode cX8_readBy 16 = .ok (.aload_n 0, 1) := by decide +kernel
theorem dX8_readBy_17 : decode cX8_readBy 17 = .ok (.invokevirtual 142, 3) := by decide +kernel
theorem dX8_readBy_20 : decode cX8_readBy 20 = .ok (.istore_n 2, 1) := by decide +kernel
theorem dX8_readBy_21 : decode cX8_readBy 21 = .ok (.iload_n 2, 1) := by decide +kernel
theorem dX8_readBy_22 : decode cX8_readBy 22 = .ok (.iconst (-1), 1) := by decide +kernel
theorem dX8_readBy_23 : decode cX8_readBy 23 = .ok (.if_icmp .ne 5, 3) := by decide +kernel
theorem dX8_readBy_26 : decode cX8_readBy 26 = .ok (.iconst 0, 1) := by decide +kernel
theorem dX8_readBy_27 : decode cX8_readBy 27 = .ok (.ireturn, 1) := by decide +kernel
theorem dX8_readBy_28 : decode cX8_readBy 28 = .ok (.aload_n 1, 1) := by decide +kernel
theorem dX8_readBy_29 : decode cX8_readBy 29 = .ok (.iload_n 2, 1) := by decide +kernel
theorem dX8_readBy_30 : decode cX8_readBy 30 = .ok (.aload_n 0, 1) := by decide +kernel
theorem dX8_readBy_31 : decode cX8_readBy 31 = .ok (.getfield 15, 3) := by decide +kernel
theorem dX8_readBy_34 : decode cX8_readBy 34 = .ok (.iload_n 2, 1) := by decide +kernel
theorem dX8_readBy_35 : decode cX8_readBy 35 = .ok (.invokevirtual 162, 3) := by decide +kernel
theorem dX8_readBy_38 : decode cX8_readBy 38 = .ok (.invokevirtual 166, 3) := by decide +kernel
theorem dX8_readBy_41 : decode cX8_readBy 41 = .ok (.aload_n 0, 1) := by decide +kernel
theorem dX8_readBy_42 : decode cX8_readBy 42 = .ok (.invokevirtual 43, 3) := by decide +kernel
theorem dX8_readBy_45 : decode cX8_readBy 45 = .ok (.aload_n 0, 1) := by decide +kernel
theorem dX8_readBy_46 : decode cX8_readBy 46 = .ok (.bipush 44, 2) := by decide +kernel
theorem dX8_readBy_48 : decode cX8_readBy 48 = .ok (.invokevirtual 36, 3) := by decide +kernel
theorem dX8_readBy_51 : decode cX8_readBy 51 = .ok (.ifCond .ne 5, 3) := by decide +kernel
theorem dX8_readBy_54 : decode cX8_readBy 54 = .ok (.iconst 1, 1) := by decide +kernel
theorem dX8_readBy_55 : decode cX8_readBy 55 = .ok (.ireturn, 1) := by decide +kernel
theorem dX8_readBy_56 : decode cX8_readBy 56 = .ok (.aload_n 0, 1) := by decide +kernel
theorem dX8_readBy_57 : decode cX8_readBy 57 = .ok (.invokevirtual 43, 3) := by decide +kernel
theorem dX8_readBy_60 : decode cX8_readBy 60 = .ok (.aload_n 0, 1) := by decide +kernel
theorem dX8_readBy_61 : decode cX8_readBy 61 = .ok (.invokevirtual 142, 3) := by decide +kernel
theorem dX8_readBy_64 : decode cX8_readBy 64 = .ok (.istore_n 3, 1) := by decide +kernel
theorem dX8_readBy_65 : decode cX8_readBy 65 = .ok (.iload_n 3, 1) := by decide +kernel
theorem dX8_readBy_66 : decode cX8_readBy 66 = .ok (.iconst (-1), 1) := by decide +kernel
theorem dX8_readBy_67 : decode cX8_readBy 67 = .ok (.if_icmp .ne 5, 3) := by decide +kernel
theorem dX8_readBy_70 : decode cX8_readBy 70 = .ok (.iconst 0, 1) := by decide +kernel
theorem dX8_readBy_71 : decode cX8_readBy 71 = .ok (.ireturn, 1) := by decide +kernel
theorem dX8_readBy_72 : decode cX8_readBy 72 = .ok (.iload_n 3, 1) := by decide +kernel
theorem dX8_readBy_73 : decode cX8_readBy 73 = .ok (.iload_n 2, 1) := by decide +kernel
theorem dX8_readBy_74 : decode cX8_readBy 74 = .ok (.if_icmp .ne 9, 3) := by decide +kernel
theorem dX8_readBy_77 : decode cX8_readBy 77 = .ok (.aload_n 0, 1) := by decide +kernel
theorem dX8_readBy_78 : decode cX8_readBy 78 = .ok (.iconst 3, 1) := by decide +kernel
theorem dX8_readBy_79 : decode cX8_readBy 79 = .ok (.invokevirtual 40, 3) := by decide +kernel
theorem dX8_readBy_82 : decode cX8_readBy 82 = .ok (.ireturn, 1) := by decide +kernel
theorem dX8_readBy_83 : decode cX8_readBy 83 = .ok (.aload_n 1, 1) := by decide +kernel
theorem dX8_readBy_84 : decode cX8_readBy 84 = .ok (.iload_n 3, 1) := by decide +kernel
theorem dX8_readBy_85 : decode cX8_readBy 85 = .ok (.aload_n 0, 1) := by decide +kernel
theorem dX8_readBy_86 : decode cX8_readBy 86 = .ok (.getfield 15, 3) := by decide +kernel
theorem dX8_readBy_89 : decode cX8_readBy 89 = .ok (.iload_n 3, 1) := by decide +kernel
theorem dX8_readBy_90 : decode cX8_readBy 90 = .ok (.invokevirtual 162, 3) := by decide +kernel
theorem dX8_readBy_93 : decode cX8_readBy 93 = .ok (.invokevirtual 170, 3) := by decide +kernel
theorem dX8_readBy_96 : decode cX8_readBy 96 = .ok (.aload_n 0, 1) := by decide +kernel
theorem dX8_readBy_97 : decode cX8_readBy 97 = .ok (.invokevirtual 43, 3) := by decide +kernel
theorem dX8_readBy_100 : decode cX8_readBy 100 = .ok (.iconst 1, 1) := by decide +kernel
theorem dX8_readBy_101 : decode cX8_readBy 101 = .ok (.ireturn, 1) := by decide +kernel
theorem dX8_isSign_0 : decode cX8_isSign 0 = .ok (.aload_n 0, 1) := by decide +kernel
theorem dX8_isSign_1 : decode cX8_isSign 1 = .ok (.getfield 32, 3) := by decide +kernel
theorem dX8_isSign_4 : decode cX8_isSign 4 = .ok (.iconst 3, 1) := by decide +kernel
theorem dX8_isSign_5 : decode cX8_isSign 5 = .ok (.if_icmp .ne 15, 3) := by decide +kernel
theorem dX8_isSign_8 : decode cX8_isSign 8 = .ok (.aload_n 0, 1) := by decide +kernel
theorem dX8_isSign_9 : decode cX8_isSign 9 = .ok (.getfield 121, 3) := by decide +kernel
theorem dX8_isSign_12 : decode cX8_isSign 12 = .ok (.iload_n 1, 1) := by decide +kernel
theorem dX8_isSign_13 : decode cX8_isSign 13 = .ok (.if_icmp .ne 7, 3) := by decide +kernel
theorem dX8_isSign_16 : decode cX8_isSign 16 = .ok (.iconst 1, 1) := by decide +kernel
theorem dX8_isSign_17 : decode cX8_isSign 17 = .ok (.goto 4, 3) := by decide +kernel
theorem dX8_isSign_20 : decode cX8_isSign 20 = .ok (.iconst 0, 1) := by decide +kernel
theorem dX8_isSign_21 : decode cX8_isSign 21 = .ok (.ireturn, 1) := by decide +kernel
theorem dX8_isWord_0 : decode cX8_isWord 0 = .ok (.aload_n 0, 1) := by decide +kernel
theorem dX8_isWord_1 : decode cX8_isWord 1 = .ok (.getfield 32, 3) := by decide +kernel
theorem dX8_isWord_4 : decode cX8_isWord 4 = .ok (.iconst 1, 1) := by decide +kernel
theorem dX8_isWord_5 : decode cX8_isWord 5 = .ok (.if_icmp .ne 16, 3) := by decide +kernel
theorem dX8_isWord_8 : decode cX8_isWord 8 = .ok (.aload_n 0, 1) := by decide +kernel
theorem dX8_isWord_9 : decode cX8_isWord 9 = .ok (.getfield 105, 3) := by decide +kernel
theorem dX8_isWord_12 : decode cX8_isWord 12 = .ok (.lload_n 1, 1) := by decide +kernel
theorem dX8_isWord_13 : decode cX8_isWord 13 = .ok (.lcmp, 1) := by decide +kernel
theorem dX8_isWord_14 : decode cX8_isWord 14 = .ok (.ifCond .ne 7, 3) := by decide +kernel
theorem dX8_isWord_17 : decode cX8_isWord 17 = .ok (.iconst 1, 1) := by decide +kernel
theorem dX8_isWord_18 : decode cX8_isWord 18 = .ok (.goto 4, 3) := by decide +kernel
theorem dX8_isWord_21 : decode cX8_isWord 21 = .ok (.iconst 0, 1) := by decide +kernel
theorem dX8_isWord_22 : decode cX8_isWord 22 = .ok (.ireturn, 1) := by decide +kernel
theorem dX8_isName_0 : decode cX8_isName 0 = .ok (.aload_n 0, 1) := by decide +kernel
theorem dX8_isName_1 : decode cX8_isName 1 = .ok (.getfield 32, 3) := by decide +kernel
theorem dX8_isName_4 : decode cX8_isName 4 = .ok (.iconst 1, 1) := by decide +kernel
theorem dX8_isName_5 : decode cX8_isName 5 = .ok (.if_icmp .ne 84, 3) := by decide +kernel
theorem dX8_isName_8 : decode cX8_isName 8 = .ok (.aload_n 0, 1) := by decide +kernel
theorem dX8_isName_9 : decode cX8_isName 9 = .ok (.getfield 105, 3) := by decide +kernel
theorem dX8_isName_12 : decode cX8_isName 12 = .ok (.ldc2_w 85, 3) := by decide +kernel
theorem dX8_isName_15 : decode cX8_isName 15 = .ok (.lcmp, 1) := by decide +kernel
theorem dX8_isName_16 : decode cX8_isName 16 = .ok (.ifCond .eq 73, 3) := by decide +kernel
theorem dX8_isName_19 : decode cX8_isName 19 = .ok (.aload_n 0, 1) := by decide +kernel
theorem dX8_isName_20 : decode cX8_isName 20 = .ok (.getfield 105, 3) := by decide +kernel
theorem dX8_isName_23 : decode cX8_isName 23 = .ok (.ldc2_w 90, 3) := by decide +kernel
theorem dX8_isName_26 : decode cX8_isName 26 = .ok (.lcmp, 1) := by decide +kernel
theorem dX8_isName_27 : decode cX8_isName 27 = .ok (.ifCond .eq 62, 3) := by decide +kernel
theorem dX8_isName_30 : decode cX8_isName 30 = .ok (.aload_n 0, 1) := by decide +kernel
theorem dX8_isName_31 : decode cX8_isName 31 = .ok (.getfield 105, 3) := by decide +kernel
theorem dX8_isName_34 : decode cX8_isName 34 = .ok (.ldc2_w 140, 3) := by decide +kernel
theorem dX8_isName_37 : decode cX8_isName 37 = .ok (.lcmp, 1) := by decide +kernel
theorem dX8_isName_38 : decode cX8_isName 38 = .ok (.ifCond .eq 51, 3) := by decide +kernel
theorem dX8_isName_41 : decode cX8_isName 41 = .ok (.aload_n 0, 1) := by decide +kernel
theorem dX8_isName_42 : decode cX8_isName 42 = .ok (.getfield 105, 3) := by decide +kernel
theorem dX8_isName_45 : decode cX8_isName 45 = .ok (.ldc2_w 153, 3) := by decide +kernel
theorem dX8_isName_48 : decode cX8_isName 48 = .ok (.lcmp, 1) := by decide +kernel
theorem dX8_isName_49 : decode cX8_isName 49 = .ok (.ifCond .eq 40, 3) := by decide +kernel
theorem dX8_isName_52 : decode cX8_isName 52 = .ok (.aload_n 0, 1) := by decide +kernel
theorem dX8_isName_53 : decode cX8_isName 53 = .ok (.getfield 105, 3) := by decide +kernel
theorem dX8_isName_56 : decode cX8_isName 56 = .ok (.ldc2_w 155, 3) := by decide +kernel
theorem dX8_isName_59 : decode cX8_isName 59 = .ok (.lcmp, 1) := by decide +kernel
theorem dX8_isName_60 : decode cX8_isName 60 = .ok (.ifCond .eq 29, 3) := by decide +kernel
theorem dX8_isName_63 : decode cX8_isName 63 = .ok (.aload_n 0, 1) := by decide +kernel
theorem dX8_isName_64 : decode cX8_isName 64 = .ok (.getfield 105, 3) := by decide +kernel
theorem dX8_isName_67 : decode cX8_isName 67 = .ok (.ldc2_w 160, 3) := by decide +kernel
theorem dX8_isName_70 : decode cX8_isName 70 = .ok (.lcmp, 1) := by decide +kernel
theorem dX8_isName_71 : decode cX8_isName 71 = .ok (.ifCond .eq 18, 3) := by decide +kernel
theorem dX8_isName_74 : decode cX8_isName 74 = .ok (.aload_n 0, 1) := by decide +kernel
theorem dX8_isName_75 : decode cX8_isName 75 = .ok (.getfield 105, 3) := by decide +kernel
theorem dX8_isName_78 : decode cX8_isName 78 = .ok (.ldc2_w 56, 3) := by decide +kernel
theorem dX8_isName_81 : decode cX8_isName 81 = .ok (.lcmp, 1) := by decide +kernel
theorem dX8_isName_82 : decode cX8_isName 82 = .ok (.ifCond .eq 7, 3) := by decide +kernel
theorem dX8_isName_85 : decode cX8_isName 85 = .ok (.iconst 1, 1) := by decide +kernel
theorem dX8_isName_86 : decode cX8_isName 86 = .ok (.goto 4, 3) := by decide +kernel
theorem dX8_isName_89 : decode cX8_isName 89 = .ok (.iconst 0, 1) := by decide +kernel
theorem dX8_isName_90 : decode cX8_isName 90 = .ok (.ireturn, 1) := by decide +kernel
theorem dX8_step_0 : decode cX8_step 0 = .ok (.aload_n 0, 1) := by decide +kernel
theorem dX8_step_1 : decode cX8_step 1 = .ok (.aload_n 0, 1) := by decide +kernel
theorem dX8_step_2 : decode cX8_step 2 = .ok (.getfield 82, 3) := by decide +kernel
theorem dX8_step_5 : decode cX8_step 5 = .ok (.putfield 173, 3) := by decide +kernel
theorem dX8_step_8 : decode cX8_step 8 = .ok (.aload_n 0, 1) := by decide +kernel
theorem dX8_step_9 : decode cX8_step 9 = .ok (.getfield 82, 3) := by decide +kernel
theorem dX8_step_12 : decode cX8_step 12 = .ok (.istore_n 1, 1) := by decide +kernel
theorem dX8_step_13 : decode cX8_step 13 = .ok (.iload_n 1, 1) := by decide +kernel
theorem dX8_step_14 : decode cX8_step 14 = .ok (.aload_n 0, 1) := by decide +kernel
theorem dX8_step_15 : decode cX8_step 15 = .ok (.getfield 79, 3) := by decide +kernel
theorem dX8_step_18 : decode cX8_step 18 = .ok (.if_icmp .ge 26, 3) := by decide +kernel
theorem dX8_step_21 : decode cX8_step 21 = .ok (.aload_n 0, 1) := by decide +kernel
theorem dX8_step_22 : decode cX8_step 22 = .ok (.iload_n 1, 1) := by decide +kernel
theorem dX8_step_23 : decode cX8_step 23 = .ok (.invokevirtual 176, 3) := by decide +kernel
theorem dX8_step_26 : decode cX8_step 26 = .ok (.bipush 32, 2) := by decide +kernel
theorem dX8_step_28 : decode cX8_step 28 = .ok (.if_icmp .ne 16, 3) := by decide +kernel
theorem dX8_step_31 : decode cX8_step 31 = .ok (.aload_n 0, 1) := by decide +kernel
theorem dX8_step_32 : decode cX8_step 32 = .ok (.iload_n 1, 1) := by decide +kernel
theorem dX8_step_33 : decode cX8_step 33 = .ok (.iconst 1, 1) := by decide +kernel
theorem dX8_step_34 : decode cX8_step 34 = .ok (.iadd, 1) := by decide +kernel
theorem dX8_step_35 : decode cX8_step 35 = .ok (.putfield 173, 3) := by decide +kernel
theorem dX8_step_38 : decode cX8_step 38 = .ok (.iinc 1 1, 3) := by decide +kernel
theorem dX8_step_41 : decode cX8_step 41 = .ok (.goto (-28), 3) := by decide +kernel
theorem dX8_step_44 : decode cX8_step 44 = .ok (.aload_n 0, 1) := by decide +kernel
theorem dX8_step_45 : decode cX8_step 45 = .ok (.aload_n 0, 1) := by decide +kernel
theorem dX8_step_46 : decode cX8_step 46 = .ok (.getfield 173, 3) := by decide +kernel
theorem dX8_step_49 : decode cX8_step 49 = .ok (.putfield 82, 3) := by decide +kernel
theorem dX8_step_52 : decode cX8_step 52 = .ok (.aload_n 0, 1) := by decide +kernel
theorem dX8_step_53 : decode cX8_step 53 = .ok (.iconst 0, 1) := by decide +kernel
theorem dX8_step_54 : decode cX8_step 54 = .ok (.putfield 121, 3) := by decide +kernel
theorem dX8_step_57 : decode cX8_step 57 = .ok (.aload_n 0, 1) := by decide +kernel
theorem dX8_step_58 : decode cX8_step 58 = .ok (.lconst 0, 1) := by decide +kernel
theorem dX8_step_59 : decode cX8_step 59 = .ok (.putfield 105, 3) := by decide +kernel
theorem dX8_step_62 : decode cX8_step 62 = .ok (.aload_n 0, 1) := by decide +kernel
theorem dX8_step_63 : decode cX8_step 63 = .ok (.getfield 173, 3) := by decide +kernel
theorem dX8_step_66 : decode cX8_step 66 = .ok (.istore_n 1, 1) := by decide +kernel
theorem dX8_step_67 : decode cX8_step 67 = .ok (.iload_n 1, 1) := by decide +kernel
theorem dX8_step_68 : decode cX8_step 68 = .ok (.aload_n 0, 1) := by decide +kernel
theorem dX8_step_69 : decode cX8_step 69 = .ok (.getfield 79, 3) := by decide +kernel
theorem dX8_step_72 : decode cX8_step 72 = .ok (.if_icmp .ge 45, 3) := by decide +kernel
theorem dX8_step_75 : decode cX8_step 75 = .ok (.aload_n 0, 1) := by decide +kernel
theorem dX8_step_76 : decode cX8_step 76 = .ok (.iload_n 1, 1) := by decide +kernel
theorem dX8_step_77 : decode cX8_step 77 = .ok (.invokevirtual 176, 3) := by decide +kernel
theorem dX8_step_80 : decode cX8_step 80 = .ok (.invokestatic 179, 3) := by decide +kernel
theorem dX8_step_83 : decode cX8_step 83 = .ok (.ifCond .eq 34, 3) := by decide +kernel
theorem dX8_step_86 : decode cX8_step 86 = .ok (.aload_n 0, 1) := by decide +kernel
theorem dX8_step_87 : decode cX8_step 87 = .ok (.aload_n 0, 1) := by decide +kernel
theorem dX8_step_88 : decode cX8_step 88 = .ok (.getfield 105, 3) := by decide +kernel
theorem dX8_step_91 : decode cX8_step 91 = .ok (.bipush 8, 2) := by decide +kernel
theorem dX8_step_93 : decode cX8_step 93 = .ok (.lshl, 1) := by decide +kernel
theorem dX8_step_94 : decode cX8_step 94 = .ok (.aload_n 0, 1) := by decide +kernel
theorem dX8_step_95 : decode cX8_step 95 = .ok (.iload_n 1, 1) := by decide +kernel
theorem dX8_step_96 : decode cX8_step 96 = .ok (.invokevirtual 176, 3) := by decide +kernel
theorem dX8_step_99 : decode cX8_step 99 = .ok (.i2l, 1) := by decide +kernel
theorem dX8_step_100 : decode cX8_step 100 = .ok (.lor, 1) := by decide +kernel
theorem dX8_step_101 : decode cX8_step 101 = .ok (.putfield 105, 3) := by decide +kernel
theorem dX8_step_104 : decode cX8_step 104 = .ok (.aload_n 0, 1) := by decide +kernel
theorem dX8_step_105 : decode cX8_step 105 = .ok (.iload_n 1, 1) := by decide +kernel
theorem dX8_step_106 : decode cX8_step 106 = .ok (.iconst 1, 1) := by decide +kernel
theorem dX8_step_107 : decode cX8_step 107 = .ok (.iadd, 1) := by decide +kernel
theorem dX8_step_108 : decode cX8_step 108 = .ok (.putfield 82, 3) := by decide +kernel
theorem dX8_step_111 : decode cX8_step 111 = .ok (.iinc 1 1, 3) := by decide +kernel
theorem dX8_step_114 : decode cX8_step 114 = .ok (.goto (-47), 3) := by decide +kernel
theorem dX8_step_117 : decode cX8_step 117 = .ok (.aload_n 0, 1) := by decide +kernel
theorem dX8_step_118 : decode cX8_step 118 = .ok (.getfield 82, 3) := by decide +kernel
theorem dX8_step_121 : decode cX8_step 121 = .ok (.aload_n 0, 1) := by decide +kernel
theorem dX8_step_122 : decode cX8_step 122 = .ok (.getfield 173, 3) := by decide +kernel
theorem dX8_step_125 : decode cX8_step 125 = .ok (.isub, 1) := by decide +kernel
theorem dX8_step_126 : decode cX8_step 126 = .ok (.istore_n 1, 1) := by decide +kernel
theorem dX8_step_127 : decode cX8_step 127 = .ok (.aload_n 0, 1) := by decide +kernel
theorem dX8_step_128 : decode cX8_step 128 = .ok (.getfield 173, 3) := by decide +kernel
theorem dX8_step_131 : decode cX8_step 131 = .ok (.istore_n 2, 1) := by decide +kernel
theorem dX8_step_132 : decode cX8_step 132 = .ok (.iload_n 2, 1) := by decide +kernel
theorem dX8_step_133 : decode cX8_step 133 = .ok (.aload_n 0, 1) := by decide +kernel
theorem dX8_step_134 : decode cX8_step 134 = .ok (.getfield 79, 3) := by decide +kernel
theorem dX8_step_137 : decode cX8_step 137 = .ok (.if_icmp .ge 47, 3) := by decide +kernel
theorem dX8_step_140 : decode cX8_step 140 = .ok (.aload_n 0, 1) := by decide +kernel
theorem dX8_step_141 : decode cX8_step 141 = .ok (.iload_n 2, 1) := by decide +kernel
theorem dX8_step_142 : decode cX8_step 142 = .ok (.invokevirtual 176, 3) := by decide +kernel
theorem dX8_step_145 : decode cX8_step 145 = .ok (.invokestatic 182, 3) := by decide +kernel
theorem dX8_step_148 : decode cX8_step 148 = .ok (.ifCond .eq 36, 3) := by decide +kernel
theorem dX8_step_151 : decode cX8_step 151 = .ok (.aload_n 0, 1) := by decide +kernel
theorem dX8_step_152 : decode cX8_step 152 = .ok (.aload_n 0, 1) := by decide +kernel
theorem dX8_step_153 : decode cX8_step 153 = .ok (.getfield 121, 3) := by decide +kernel
theorem dX8_step_156 : decode cX8_step 156 = .ok (.bipush 10, 2) := by decide +kernel
theorem dX8_step_158 : decode cX8_step 158 = .ok (.imul, 1) := by decide +kernel
theorem dX8_step_159 : decode cX8_step 159 = .ok (.aload_n 0, 1) := by decide +kernel
theorem dX8_step_160 : decode cX8_step 160 = .ok (.iload_n 2, 1) := by decide +kernel
theorem dX8_step_161 : decode cX8_step 161 = .ok (.invokevirtual 176, 3) := by decide +kernel
theorem dX8_step_164 : decode cX8_step 164 = .ok (.iadd, 1) := by decide +kernel
theorem dX8_step_165 : decode cX8_step 165 = .ok (.bipush 48, 2) := by decide +kernel
theorem dX8_step_167 : decode cX8_step 167 = .ok (.isub, 1) := by decide +kernel
theorem dX8_step_168 : decode cX8_step 168 = .ok (.putfield 121, 3) := by decide +kernel
theorem dX8_step_171 : decode cX8_step 171 = .ok (.aload_n 0, 1) := by decide +kernel
theorem dX8_step_172 : decode cX8_step 172 = .ok (.iload_n 2, 1) := by decide +kernel
theorem dX8_step_173 : decode cX8_step 173 = .ok (.iconst 1, 1) := by decide +kernel
theorem dX8_step_174 : decode cX8_step 174 = .ok (.iadd, 1) := by decide +kernel
theorem dX8_step_175 : decode cX8_step 175 = .ok (.putfield 82, 3) := by decide +kernel
theorem dX8_step_178 : decode cX8_step 178 = .ok (.iinc 2 1, 3) := by decide +kernel
theorem dX8_step_181 : decode cX8_step 181 = .ok (.goto (-49), 3) := by decide +kernel
theorem dX8_step_184 : decode cX8_step 184 = .ok (.iload_n 1, 1) := by decide +kernel
theorem dX8_step_185 : decode cX8_step 185 = .ok (.ifCond .le 7, 3) := by decide +kernel
theorem dX8_step_188 : decode cX8_step 188 = .ok (.iconst 0, 1) := by decide +kernel
theorem dX8_step_189 : decode cX8_step 189 = .ok (.goto 12, 3) := by decide +kernel
theorem dX8_step_192 : decode cX8_step 192 = .ok (.aload_n 0, 1) := by decide +kernel
theorem dX8_step_193 : decode cX8_step 193 = .ok (.getfield 82, 3) := by decide +kernel
theorem dX8_step_196 : decode cX8_step 196 = .ok (.aload_n 0, 1) := by decide +kernel
theorem dX8_step_197 : decode cX8_step 197 = .ok (.getfield 173, 3) := by decide +kernel
theorem dX8_step_200 : decode cX8_step 200 = .ok (.isub, 1) := by decide +kernel
theorem dX8_step_201 : decode cX8_step 201 = .ok (.istore_n 2, 1) := by decide +kernel
theorem dX8_step_202 : decode cX8_step 202 = .ok (.iload_n 1, 1) := by decide +kernel
theorem dX8_step_203 : decode cX8_step 203 = .ok (.ifCond .le 21, 3) := by decide +kernel
theorem dX8_step_206 : decode cX8_step 206 = .ok (.aload_n 0, 1) := by decide +kernel
theorem dX8_step_207 : decode cX8_step 207 = .ok (.iload_n 1, 1) := by decide +kernel
theorem dX8_step_208 : decode cX8_step 208 = .ok (.bipush 8, 2) := by decide +kernel
theorem dX8_step_210 : decode cX8_step 210 = .ok (.if_icmp .gt 7, 3) := by decide +kernel
theorem dX8_step_213 : decode cX8_step 213 = .ok (.iconst 1, 1) := by decide +kernel
theorem dX8_step_214 : decode cX8_step 214 = .ok (.goto 4, 3) := by decide +kernel
theorem dX8_step_217 : decode cX8_step 217 = .ok (.iconst 4, 1) := by decide +kernel
theorem dX8_step_218 : decode cX8_step 218 = .ok (.putfield 32, 3) := by decide +kernel
theorem dX8_step_221 : decode cX8_step 221 = .ok (.goto 36, 3) := by decide +kernel
theorem dX8_step_224 : decode cX8_step 224 = .ok (.iload_n 2, 1) := by decide +kernel
theorem dX8_step_225 : decode cX8_step 225 = .ok (.ifCond .le 20, 3) := by decide +kernel
theorem dX8_step_228 : decode cX8_step 228 = .ok (.aload_n 0, 1) := by decide +kernel
theorem dX8_step_229 : decode cX8_step 229 = .ok (.iload_n 2, 1) := by decide +kernel
theorem dX8_step_230 : decode cX8_step 230 = .ok (.iconst 4, 1) := by decide +kernel
theorem dX8_step_231 : decode cX8_step 231 = .ok (.if_icmp .gt 7, 3) := by decide +kernel
theorem dX8_step_234 : decode cX8_step 234 = .ok (.iconst 2, 1) := by decide +kernel
theorem dX8_step_235 : decode cX8_step 235 = .ok (.goto 4, 3) := by decide +kernel
theorem dX8_step_238 : decode cX8_step 238 = .ok (.iconst 4, 1) := by decide +kernel
theorem dX8_step_239 : decode cX8_step 239 = .ok (.putfield 32, 3) := by decide +kernel
theorem dX8_step_242 : decode cX8_step 242 = .ok (.goto 15, 3) := by decide +kernel
theorem dX8_step_245 : decode cX8_step 245 = .ok (.aload_n 0, 1) := by decide +kernel
theorem dX8_step_246 : decode cX8_step 246 = .ok (.aload_n 0, 1) := by decide +kernel
theorem dX8_step_247 : decode cX8_step 247 = .ok (.aload_n 0, 1) := by decide +kernel
theorem dX8_step_248 : decode cX8_step 248 = .ok (.getfield 173, 3) := by decide +kernel
theorem dX8_step_251 : decode cX8_step 251 = .ok (.invokevirtual 176, 3) := by decide +kernel
theorem dX8_step_254 : decode cX8_step 254 = .ok (.invokevirtual 185, 3) := by decide +kernel
theorem dX8_step_257 : decode cX8_step 257 = .ok (.return_, 1) := by decide +kernel
theorem dX8_takeSign_0 : decode cX8_takeSign 0 = .ok (.aload_n 0, 1) := by decide +kernel
theorem dX8_takeSign_1 : decode cX8_takeSign 1 = .ok (.getfield 173, 3) := by decide +kernel
theorem dX8_takeSign_4 : decode cX8_takeSign 4 = .ok (.aload_n 0, 1) := by decide +kernel
theorem dX8_takeSign_5 : decode cX8_takeSign 5 = .ok (.getfield 79, 3) := by decide +kernel
theorem dX8_takeSign_8 : decode cX8_takeSign 8 = .ok (.if_icmp .lt 9, 3) := by decide +kernel
theorem dX8_takeSign_11 : decode cX8_takeSign 11 = .ok (.aload_n 0, 1) := by decide +kernel
theorem dX8_takeSign_12 : decode cX8_takeSign 12 = .ok (.iconst 0, 1) := by decide +kernel
theorem dX8_takeSign_13 : decode cX8_takeSign 13 = .ok (.putfield 32, 3) := by decide +kernel
theorem dX8_takeSign_16 : decode cX8_takeSign 16 = .ok (.return_, 1) := by decide +kernel
theorem dX8_takeSign_17 : decode cX8_takeSign 17 = .ok (.aload_n 0, 1) := by decide +kernel
theorem dX8_takeSign_18 : decode cX8_takeSign 18 = .ok (.aload_n 0, 1) := by decide +kernel
theorem dX8_takeSign_19 : decode cX8_takeSign 19 = .ok (.getfield 173, 3) := by decide +kernel
theorem dX8_takeSign_22 : decode cX8_takeSign 22 = .ok (.iconst 1, 1) := by decide +kernel
theorem dX8_takeSign_23 : decode cX8_takeSign 23 = .ok (.iadd, 1) := by decide +kernel
theorem dX8_takeSign_24 : decode cX8_takeSign 24 = .ok (.putfield 82, 3) := by decide +kernel
theorem dX8_takeSign_27 : decode cX8_takeSign 27 = .ok (.aload_n 0, 1) := by decide +kernel
theorem dX8_takeSign_28 : decode cX8_takeSign 28 = .ok (.iload_n 1, 1) := by decide +kernel
theorem dX8_takeSign_29 : decode cX8_takeSign 29 = .ok (.putfield 121, 3) := by decide +kernel
theorem dX8_takeSign_32 : decode cX8_takeSign 32 = .ok (.aload_n 0, 1) := by decide +kernel
theorem dX8_takeSign_33 : decode cX8_takeSign 33 = .ok (.aload_n 0, 1) := by decide +kernel
theorem dX8_takeSign_34 : decode cX8_takeSign 34 = .ok (.getfield 121, 3) := by decide +kernel
theorem dX8_takeSign_37 : decode cX8_takeSign 37 = .ok (.bipush 59, 2) := by decide +kernel
theorem dX8_takeSign_39 : decode cX8_takeSign 39 = .ok (.if_icmp .eq 39, 3) := by decide +kernel
theorem dX8_takeSign_42 : decode cX8_takeSign 42 = .ok (.aload_n 0, 1) := by decide +kernel
theorem dX8_takeSign_43 : decode cX8_takeSign 43 = .ok (.getfield 121, 3) := by decide +kernel
theorem dX8_takeSign_46 : decode cX8_takeSign 46 = .ok (.bipush 44, 2) := by decide +kernel
theorem dX8_takeSign_48 : decode cX8_takeSign 48 = .ok (.if_icmp .eq 30, 3) := by decide +kernel
theorem dX8_takeSign_51 : decode cX8_takeSign 51 = .ok (.aload_n 0, 1) := by decide +kernel
theorem dX8_takeSign_52 : decode cX8_takeSign 52 = .ok (.getfield 121, 3) := by decide +kernel
theorem dX8_takeSign_55 : decode cX8_takeSign 55 = .ok (.bipush 61, 2) := by decide +kernel
theorem dX8_takeSign_57 : decode cX8_takeSign 57 = .ok (.if_icmp .eq 21, 3) := by decide +kernel
theorem dX8_takeSign_60 : decode cX8_takeSign 60 = .ok (.aload_n 0, 1) := by decide +kernel
theorem dX8_takeSign_61 : decode cX8_takeSign 61 = .ok (.getfield 121, 3) := by decide +kernel
theorem dX8_takeSign_64 : decode cX8_takeSign 64 = .ok (.bipush 60, 2) := by decide +kernel
theorem dX8_takeSign_66 : decode cX8_takeSign 66 = .ok (.if_icmp .eq 12, 3) := by decide +kernel
theorem dX8_takeSign_69 : decode cX8_takeSign 69 = .ok (.aload_n 0, 1) := by decide +kernel
theorem dX8_takeSign_70 : decode cX8_takeSign 70 = .ok (.getfield 121, 3) := by decide +kernel
theorem dX8_takeSign_73 : decode cX8_takeSign 73 = .ok (.bipush 62, 2) := by decide +kernel
theorem dX8_takeSign_75 : decode cX8_takeSign 75 = .ok (.if_icmp .ne 7, 3) := by decide +kernel
theorem dX8_takeSign_78 : decode cX8_takeSign 78 = .ok (.iconst 3, 1) := by decide +kernel
theorem dX8_takeSign_79 : decode cX8_takeSign 79 = .ok (.goto 4, 3) := by decide +kernel
theorem dX8_takeSign_82 : decode cX8_takeSign 82 = .ok (.iconst 4, 1) := by decide +kernel
theorem dX8_takeSign_83 : decode cX8_takeSign 83 = .ok (.putfield 32, 3) := by decide +kernel
theorem dX8_takeSign_86 : decode cX8_takeSign 86 = .ok (.return_, 1) := by decide +kernel
theorem dX8_byteAt_0 : decode cX8_byteAt 0 = .ok (.iload_n 1, 1) := by decide +kernel
theorem dX8_byteAt_1 : decode cX8_byteAt 1 = .ok (.ifCond .lt 21, 3) := by decide +kernel
theorem dX8_byteAt_4 : decode cX8_byteAt 4 = .ok (.iload_n 1, 1) := by decide +kernel
theorem dX8_byteAt_5 : decode cX8_byteAt 5 = .ok (.aload_n 0, 1) := by decide +kernel
theorem dX8_byteAt_6 : decode cX8_byteAt 6 = .ok (.getfield 9, 3) := by decide +kernel
theorem dX8_byteAt_9 : decode cX8_byteAt 9 = .ok (.arraylength, 1) := by decide +kernel
theorem dX8_byteAt_10 : decode cX8_byteAt 10 = .ok (.if_icmp .ge 12, 3) := by decide +kernel
theorem dX8_byteAt_13 : decode cX8_byteAt 13 = .ok (.aload_n 0, 1) := by decide +kernel
theorem dX8_byteAt_14 : decode cX8_byteAt 14 = .ok (.getfield 9, 3) := by decide +kernel
theorem dX8_byteAt_17 : decode cX8_byteAt 17 = .ok (.iload_n 1, 1) := by decide +kernel
theorem dX8_byteAt_18 : decode cX8_byteAt 18 = .ok (.baload, 1) := by decide +kernel
theorem dX8_byteAt_19 : decode cX8_byteAt 19 = .ok (.goto 4, 3) := by decide +kernel
theorem dX8_byteAt_22 : decode cX8_byteAt 22 = .ok (.iconst 0, 1) := by decide +kernel
theorem dX8_byteAt_23 : decode cX8_byteAt 23 = .ok (.ireturn, 1) := by decide +kernel
theorem dX8_isLetter_0 : decode cX8_isLetter 0 = .ok (.iload_n 0, 1) := by decide +kernel
theorem dX8_isLetter_1 : decode cX8_isLetter 1 = .ok (.bipush 97, 2) := by decide +kernel
theorem dX8_isLetter_3 : decode cX8_isLetter 3 = .ok (.if_icmp .lt 13, 3) := by decide +kernel
theorem dX8_isLetter_6 : decode cX8_isLetter 6 = .ok (.iload_n 0, 1) := by decide +kernel
theorem dX8_isLetter_7 : decode cX8_isLetter 7 = .ok (.bipush 122, 2) := by decide +kernel
theorem dX8_isLetter_9 : decode cX8_isLetter 9 = .ok (.if_icmp .gt 7, 3) := by decide +kernel
theorem dX8_isLetter_12 : decode cX8_isLetter 12 = .ok (.iconst 1, 1) := by decide +kernel
theorem dX8_isLetter_13 : decode cX8_isLetter 13 = .ok (.goto 4, 3) := by decide +kernel
theorem dX8_isLetter_16 : decode cX8_isLetter 16 = .ok (.iconst 0, 1) := by decide +kernel
theorem dX8_isLetter_17 : decode cX8_isLetter 17 = .ok (.ireturn, 1) := by decide +kernel
theorem dX8_isDigit_0 : decode cX8_isDigit 0 = .ok (.iload_n 0, 1) := by decide +kernel
theorem dX8_isDigit_1 : decode cX8_isDigit 1 = .ok (.bipush 48, 2) := by decide +kernel
theorem dX8_isDigit_3 : decode cX8_isDigit 3 = .ok (.if_icmp .lt 13, 3) := by decide +kernel
theorem dX8_isDigit_6 : decode cX8_isDigit 6 = .ok (.iload_n 0, 1) := by decide +kernel
theorem dX8_isDigit_7 : decode cX8_isDigit 7 = .ok (.bipush 57, 2) := by decide +kernel
theorem dX8_isDigit_9 : decode cX8_isDigit 9 = .ok (.if_icmp .gt 7, 3) := by decide +kernel
theorem dX8_isDigit_12 : decode cX8_isDigit 12 = .ok (.iconst 1, 1) := by decide +kernel
theorem dX8_isDigit_13 : decode cX8_isDigit 13 = .ok (.goto 4, 3) := by decide +kernel
theorem dX8_isDigit_16 : decode cX8_isDigit 16 = .ok (.iconst 0, 1) := by decide +kernel
theorem dX8_isDigit_17 : decode cX8_isDigit 17 = .ok (.ireturn, 1) := by decide +kernel
theorem dX9_init_0 : decode cX9_init 0 = .ok (.aload_n 0, 1) := by decide +kernel
theorem dX9_init_1 : decode cX9_init 1 = .ok (.invokespecial 3, 3) := by decide +kernel
theorem dX9_init_4 : decode cX9_init 4 = .ok (.aload_n 0, 1) := by decide +kernel
theorem dX9_init_5 : decode cX9_init 5 = .ok (.bipush 60, 2) := by decide +kernel
theorem dX9_init_7 : decode cX9_init 7 = .ok (.newarray .int, 2) := by decide +kernel
theorem dX9_init_9 : decode cX9_init 9 = .ok (.putfield 9, 3) := by decide +kernel
theorem dX9_init_12 : decode cX9_init 12 = .ok (.aload_n 0, 1) := by decide +kernel
theorem dX9_init_13 : decode cX9_init 13 = .ok (.bipush 60, 2) := by decide +kernel
theorem dX9_init_15 : decode cX9_init 15 = .ok (.newarray .int, 2) := by decide +kernel
theorem dX9_init_17 : decode cX9_init 17 = .ok (.putfield 15, 3) := by decide +kernel
theorem dX9_init_20 : decode cX9_init 20 = .ok (.aload_n 0, 1) := by decide +kernel
theorem dX9_init_21 : decode cX9_init 21 = .ok (.bipush 60, 2) := by decide +kernel
theorem dX9_init_23 : decode cX9_init 23 = .ok (.newarray .int, 2) := by decide +kernel
theorem dX9_init_25 : decode cX9_init 25 = .ok (.putfield 18, 3) := by decide +kernel
theorem dX9_init_28 : decode cX9_init 28 = .ok (.aload_n 0, 1) := by decide +kernel
theorem dX9_init_29 : decode cX9_init 29 = .ok (.bipush 60, 2) := by decide +kernel
theorem dX9_init_31 : decode cX9_init 31 = .ok (.newarray .int, 2) := by decide +kernel
theorem dX9_init_33 : decode cX9_init 33 = .ok (.putfield 21, 3) := by decide +kernel
theorem dX9_init_36 : decode cX9_init 36 = .ok (.aload_n 0, 1) := by decide +kernel
theorem dX9_init_37 : decode cX9_init 37 = .ok (.bipush 60, 2) := by decide +kernel
theorem dX9_init_39 : decode cX9_init 39 = .ok (.newarray .int, 2) := by decide +kernel
theorem dX9_init_41 : decode cX9_init 41 = .ok (.putfield 24, 3) := by decide +kernel
theorem dX9_init_44 : decode cX9_init 44 = .ok (.aload_n 0, 1) := by decide +kernel
theorem dX9_init_45 : decode cX9_init 45 = .ok (.sipush 360, 3) := by decide +kernel
theorem dX9_init_48 : decode cX9_init 48 = .ok (.newarray .int, 2) := by decide +kernel
theorem dX9_init_50 : decode cX9_init 50 = .ok (.putfield 27, 3) := by decide +kernel
theorem dX9_init_53 : decode cX9_init 53 = .ok (.aload_n 0, 1) := by decide +kernel
theorem dX9_init_54 : decode cX9_init 54 = .ok (.sipush 360, 3) := by decide +kernel
theorem dX9_init_57 : decode cX9_init 57 = .ok (.newarray .int, 2) := by decide +kernel
theorem dX9_init_59 : decode cX9_init 59 = .ok (.putfield 30, 3) := by decide +kernel
theorem dX9_init_62 : decode cX9_init 62 = .ok (.aload_n 0, 1) := by decide +kernel
theorem dX9_init_63 : decode cX9_init 63 = .ok (.sipush 1800, 3) := by decide +kernel
theorem dX9_init_66 : decode cX9_init 66 = .ok (.newarray .int, 2) := by decide +kernel
theorem dX9_init_68 : decode cX9_init 68 = .ok (.putfield 33, 3) := by decide +kernel
theorem dX9_init_71 : decode cX9_init 71 = .ok (.aload_n 0, 1) := by decide +kernel
theorem dX9_init_72 : decode cX9_init 72 = .ok (.bipush 6, 2) := by decide +kernel
theorem dX9_init_74 : decode cX9_init 74 = .ok (.newarray .int, 2) := by decide +kernel
theorem dX9_init_76 : decode cX9_init 76 = .ok (.putfield 36, 3) := by decide +kernel
theorem dX9_init_79 : decode cX9_init 79 = .ok (.aload_n 0, 1) := by decide +kernel
theorem dX9_init_80 : decode cX9_init 80 = .ok (.aload_n 1, 1) := by decide +kernel
theorem dX9_init_81 : decode cX9_init 81 = .ok (.putfield 39, 3) := by decide +kernel
theorem dX9_init_84 : decode cX9_init 84 = .ok (.return_, 1) := by decide +kernel
theorem dX9_begin_0 : decode cX9_begin 0 = .ok (.aload_n 0, 1) := by decide +kernel
theorem dX9_begin_1 : decode cX9_begin 1 = .ok (.aload_n 1, 1) := by decide +kernel
theorem dX9_begin_2 : decode cX9_begin 2 = .ok (.putfield 39, 3) := by decide +kernel
theorem dX9_begin_5 : decode cX9_begin 5 = .ok (.aload_n 0, 1) := by decide +kernel
theorem dX9_begin_6 : decode cX9_begin 6 = .ok (.iconst 0, 1) := by decide +kernel
theorem dX9_begin_7 : decode cX9_begin 7 = .ok (.putfield 43, 3) := by decide +kernel
theorem dX9_begin_10 : decode cX9_begin 10 = .ok (.aload_n 0, 1) := by decide +kernel
theorem dX9_begin_11 : decode cX9_begin 11 = .ok (.iconst 0, 1) := by decide +kernel
theorem dX9_begin_12 : decode cX9_begin 12 = .ok (.putfield 47, 3) := by decide +kernel
theorem dX9_begin_15 : decode cX9_begin 15 = .ok (.return_, 1) := by decide +kernel
theorem dX9_has_0 : decode cX9_has 0 = .ok (.iload_n 1, 1) := by decide +kernel
theorem dX9_has_1 : decode cX9_has 1 = .ok (.ifCond .lt 21, 3) := by decide +kernel
theorem dX9_has_4 : decode cX9_has 4 = .ok (.iload_n 1, 1) := by decide +kernel
theorem dX9_has_5 : decode cX9_has 5 = .ok (.aload_n 0, 1) := by decide +kernel
theorem dX9_has_6 : decode cX9_has 6 = .ok (.getfield 43, 3) := by decide +kernel
theorem dX9_has_9 : decode cX9_has 9 = .ok (.if_icmp .ge 13, 3) := by decide +kernel
theorem dX9_has_12 : decode cX9_has 12 = .ok (.iload_n 1, 1) := by decide +kernel
theorem dX9_has_13 : decode cX9_has 13 = .ok (.bipush 60, 2) := by decide +kernel
theorem dX9_has_15 : decode cX9_has 15 = .ok (.if_icmp .ge 7, 3) := by decide +kernel
theorem dX9_has_18 : decode cX9_has 18 = .ok (.iconst 1, 1) := by decide +kernel
theorem dX9_has_19 : decode cX9_has 19 = .ok (.goto 4, 3) := by decide +kernel
theorem dX9_has_22 : decode cX9_has 22 = .ok (.iconst 0, 1) := by decide +kernel
theorem dX9_has_23 : decode cX9_has 23 = .ok (.ireturn, 1) := by decide +kernel
theorem dX9_isFull_0 : decode cX9_isFull 0 = .ok (.aload_n 0, 1) := by decide +kernel
theorem dX9_isFull_1 : decode cX9_isFull 1 = .ok (.getfield 43, 3) := by decide +kernel
theorem dX9_isFull_4 : decode cX9_isFull 4 = .ok (.bipush 60, 2) := by decide +kernel
theorem dX9_isFull_6 : decode cX9_isFull 6 = .ok (.if_icmp .lt 7, 3) := by decide +kernel
theorem dX9_isFull_9 : decode cX9_isFull 9 = .ok (.iconst 1, 1) := by decide +kernel
theorem dX9_isFull_10 : decode cX9_isFull 10 = .ok (.goto 4, 3) := by decide +kernel
theorem dX9_isFull_13 : decode cX9_isFull 13 = .ok (.iconst 0, 1) := by decide +kernel
theorem dX9_isFull_14 : decode cX9_isFull 14 = .ok (.ireturn, 1) := by decide +kernel
theorem dX9_isDay_0 : decode cX9_isDay 0 = .ok (.iload_n 1, 1) := by decide +kernel
theorem dX9_isDay_1 : decode cX9_isDay 1 = .ok (.ifCond .lt 15, 3) := by decide +kernel
theorem dX9_isDay_4 : decode cX9_isDay 4 = .ok (.iload_n 1, 1) := by decide +kernel
theorem dX9_isDay_5 : decode cX9_isDay 5 = .ok (.aload_n 0, 1) := by decide +kernel
theorem dX9_isDay_6 : decode cX9_isDay 6 = .ok (.getfield 47, 3) := by decide +kernel
theorem dX9_isDay_9 : decode cX9_isDay 9 = .ok (.if_icmp .gt 7, 3) := by decide +kernel
theorem dX9_isDay_12 : decode cX9_isDay 12 = .ok (.iconst 1, 1) := by decide +kernel
theorem dX9_isDay_13 : decode cX9_isDay 13 = .ok (.goto 4, 3) := by decide +kernel
theorem dX9_isDay_16 : decode cX9_isDay 16 = .ok (.iconst 0, 1) := by decide +kernel
theorem dX9_isDay_17 : decode cX9_isDay 17 = .ok (.ireturn, 1) := by decide +kernel
theorem dX9_add_0 : decode cX9_add 0 = .ok (.aload_n 0, 1) := by decide +kernel
theorem dX9_add_1 : decode cX9_add 1 = .ok (.getfield 43, 3) := by decide +kernel
theorem dX9_add_4 : decode cX9_add 4 = .ok (.ifCond .lt 12, 3) := by decide +kernel
theorem dX9_add_7 : decode cX9_add 7 = .ok (.aload_n 0, 1) := by decide +kernel
theorem dX9_add_8 : decode cX9_add 8 = .ok (.getfield 43, 3) := by decide +kernel
theorem dX9_add_11 : decode cX9_add 11 = .ok (.bipush 60, 2) := by decide +kernel
theorem dX9_add_13 : decode cX9_add 13 = .ok (.if_icmp .lt 5, 3) := by decide +kernel
theorem dX9_add_16 : decode cX9_add 16 = .ok (.iconst (-1), 1) := by decide +kernel
theorem dX9_add_17 : decode cX9_add 17 = .ok (.ireturn, 1) := by decide +kernel
theorem dX9_add_18 : decode cX9_add 18 = .ok (.aload_n 0, 1) := by decide +kernel
theorem dX9_add_19 : decode cX9_add 19 = .ok (.getfield 9, 3) := by decide +kernel
theorem dX9_add_22 : decode cX9_add 22 = .ok (.aload_n 0, 1) := by decide +kernel
theorem dX9_add_23 : decode cX9_add 23 = .ok (.getfield 43, 3) := by decide +kernel
theorem dX9_add_26 : decode cX9_add 26 = .ok (.aload_n 0, 1) := by decide +kernel
theorem dX9_add_27 : decode cX9_add 27 = .ok (.getfield 47, 3) := by decide +kernel
theorem dX9_add_30 : decode cX9_add 30 = .ok (.iastore, 1) := by decide +kernel
theorem dX9_add_31 : decode cX9_add 31 = .ok (.aload_n 0, 1) := by decide +kernel
theorem dX9_add_32 : decode cX9_add 32 = .ok (.getfield 15, 3) := by decide +kernel
theorem dX9_add_35 : decode cX9_add 35 = .ok (.aload_n 0, 1) := by decide +kernel
theorem dX9_add_36 : decode cX9_add 36 = .ok (.getfield 43, 3) := by decide +kernel
theorem dX9_add_39 : decode cX9_add 39 = .ok (.bipush (-2), 2) := by decide +kernel
theorem dX9_add_41 : decode cX9_add 41 = .ok (.iastore, 1) := by decide +kernel
theorem dX9_add_42 : decode cX9_add 42 = .ok (.aload_n 0, 1) := by decide +kernel
theorem dX9_add_43 : decode cX9_add 43 = .ok (.getfield 18, 3) := by decide +kernel
theorem dX9_add_46 : decode cX9_add 46 = .ok (.aload_n 0, 1) := by decide +kernel
theorem dX9_add_47 : decode cX9_add 47 = .ok (.getfield 43, 3) := by decide +kernel
theorem dX9_add_50 : decode cX9_add 50 = .ok (.bipush (-2), 2) := by decide +kernel
theorem dX9_add_52 : decode cX9_add 52 = .ok (.iastore, 1) := by decide +kernel
theorem dX9_add_53 : decode cX9_add 53 = .ok (.aload_n 0, 1) := by decide +kernel
theorem dX9_add_54 : decode cX9_add 54 = .ok (.getfield 21, 3) := by decide +kernel
theorem dX9_add_57 : decode cX9_add 57 = .ok (.aload_n 0, 1) := by decide +kernel
theorem dX9_add_58 : decode cX9_add 58 = .ok (.getfield 43, 3) := by decide +kernel
theorem dX9_add_61 : decode cX9_add 61 = .ok (.bipush (-2), 2) := by decide +kernel
theorem dX9_add_63 : decode cX9_add 63 = .ok (.iastore, 1) := by decide +kernel
theorem dX9_add_64 : decode cX9_add 64 = .ok (.aload_n 0, 1) := by decide +kernel
theorem dX9_add_65 : decode cX9_add 65 = .ok (.getfield 24, 3) := by decide +kernel
theorem dX9_add_68 : decode cX9_add 68 = .ok (.aload_n 0, 1) := by decide +kernel
theorem dX9_add_69 : decode cX9_add 69 = .ok (.getfield 43, 3) := by decide +kernel
theorem dX9_add_72 : decode cX9_add 72 = .ok (.iconst 1, 1) := by decide +kernel
theorem dX9_add_73 : decode cX9_add 73 = .ok (.iastore, 1) := by decide +kernel
theorem dX9_add_74 : decode cX9_add 74 = .ok (.aload_n 1, 1) := by decide +kernel
theorem dX9_add_75 : decode cX9_add 75 = .ok (.aload_n 0, 1) := by decide +kernel
theorem dX9_add_76 : decode cX9_add 76 = .ok (.getfield 27, 3) := by decide +kernel
theorem dX9_add_79 : decode cX9_add 79 = .ok (.aload_n 0, 1) := by decide +kernel
theorem dX9_add_80 : decode cX9_add 80 = .ok (.getfield 43, 3) := by decide +kernel
theorem dX9_add_83 : decode cX9_add 83 = .ok (.bipush 6, 2) := by decide +kernel
theorem dX9_add_85 : decode cX9_add 85 = .ok (.imul, 1) := by decide +kernel
theorem dX9_add_86 : decode cX9_add 86 = .ok (.invokestatic 50, 3) := by decide +kernel
theorem dX9_add_89 : decode cX9_add 89 = .ok (.aload_n 0, 1) := by decide +kernel
theorem dX9_add_90 : decode cX9_add 90 = .ok (.dup, 1) := by decide +kernel
theorem dX9_add_91 : decode cX9_add 91 = .ok (.getfield 43, 3) := by decide +kernel
theorem dX9_add_94 : decode cX9_add 94 = .ok (.iconst 1, 1) := by decide +kernel
theorem dX9_add_95 : decode cX9_add 95 = .ok (.iadd, 1) := by decide +kernel
theorem dX9_add_96 : decode cX9_add 96 = .ok (.putfield 43, 3) := by decide +kernel
theorem dX9_add_99 : decode cX9_add 99 = .ok (.aload_n 0, 1) := by decide +kernel
theorem dX9_add_100 : decode cX9_add 100 = .ok (.getfield 43, 3) := by decide +kernel
theorem dX9_add_103 : decode cX9_add 103 = .ok (.iconst 1, 1) := by decide +kernel
theorem dX9_add_104 : decode cX9_add 104 = .ok (.isub, 1) := by decide +kernel
theorem dX9_add_105 : decode cX9_add 105 = .ok (.ireturn, 1) := by decide +kernel
theorem dX9_keep_0 : decode cX9_keep 0 = .ok (.iload_n 2, 1) := by decide +kernel
theorem dX9_keep_1 : decode cX9_keep 1 = .ok (.ifCond .lt 28, 3) := by decide +kernel
theorem dX9_keep_4 : decode cX9_keep 4 = .ok (.iload_n 2, 1) := by decide +kernel
theorem dX9_keep_5 : decode cX9_keep 5 = .ok (.bipush 6, 2) := by decide +kernel
theorem dX9_keep_7 : decode cX9_keep 7 = .ok (.iadd, 1) := by decide +kernel
theorem dX9_keep_8 : decode cX9_keep 8 = .ok (.aload_n 1, 1) := by decide +kernel
theorem dX9_keep_9 : decode cX9_keep 9 = .ok (.arraylength, 1) := by decide +kernel
theorem dX9_keep_10 : decode cX9_keep 10 = .ok (.if_icmp .gt 19, 3) := by decide +kernel
theorem dX9_keep_13 : decode cX9_keep 13 = .ok (.bipush 6, 2) := by decide +kernel
theorem dX9_keep_15 : decode cX9_keep 15 = .ok (.aload_n 0, 1) := by decide +kernel
theorem dX9_keep_16 : decode cX9_keep 16 = .ok (.arraylength, 1) := by decide +kernel
theorem dX9_keep_17 : decode cX9_keep 17 = .ok (.if_icmp .gt 12, 3) := by decide +kernel
theorem dX9_keep_20 : decode cX9_keep 20 = .ok (.aload_n 0, 1) := by decide +kernel
theorem dX9_keep_21 : decode cX9_keep 21 = .ok (.iconst 0, 1) := by decide +kernel
theorem dX9_keep_22 : decode cX9_keep 22 = .ok (.aload_n 1, 1) := by decide +kernel
theorem dX9_keep_23 : decode cX9_keep 23 = .ok (.iload_n 2, 1) := by decide +kernel
theorem dX9_keep_24 : decode cX9_keep 24 = .ok (.bipush 6, 2) := by decide +kernel
theorem dX9_keep_26 : decode cX9_keep 26 = .ok (.invokestatic 54, 3) := by decide +kernel
theorem dX9_keep_29 : decode cX9_keep 29 = .ok (.return_, 1) := by decide +kernel
theorem dX9_isWithdrawn_0 : decode cX9_isWithdrawn 0 = .ok (.aload_n 0, 1) := by decide +kernel
theorem dX9_isWithdrawn_1 : decode cX9_isWithdrawn 1 = .ok (.iload_n 1, 1) := by decide +kernel
theorem dX9_isWithdrawn_2 : decode cX9_isWithdrawn 2 = .ok (.invokevirtual 60, 3) := by decide +kernel
theorem dX9_isWithdrawn_5 : decode cX9_isWithdrawn 5 = .ok (.ifCond .eq 18, 3) := by decide +kernel
theorem dX9_isWithdrawn_8 : decode cX9_isWithdrawn 8 = .ok (.aload_n 0, 1) := by decide +kernel
theorem dX9_isWithdrawn_9 : decode cX9_isWithdrawn 9 = .ok (.getfield 15, 3) := by decide +kernel
theorem dX9_isWithdrawn_12 : decode cX9_isWithdrawn 12 = .ok (.iload_n 1, 1) := by decide +kernel
theorem dX9_isWithdrawn_13 : decode cX9_isWithdrawn 13 = .ok (.iaload, 1) := by decide +kernel
theorem dX9_isWithdrawn_14 : decode cX9_isWithdrawn 14 = .ok (.bipush (-2), 2) := by decide +kernel
theorem dX9_isWithdrawn_16 : decode cX9_isWithdrawn 16 = .ok (.if_icmp .eq 7, 3) := by decide +kernel
theorem dX9_isWithdrawn_19 : decode cX9_isWithdrawn 19 = .ok (.iconst 1, 1) := by decide +kernel
theorem dX9_isWithdrawn_20 : decode cX9_isWithdrawn 20 = .ok (.goto 4, 3) := by decide +kernel
theorem dX9_isWithdrawn_23 : decode cX9_isWithdrawn 23 = .ok (.iconst 0, 1) := by decide +kernel
theorem dX9_isWithdrawn_24 : decode cX9_isWithdrawn 24 = .ok (.ireturn, 1) := by decide +kernel
theorem dX9_isThere_0 : decode cX9_isThere 0 = .ok (.aload_n 0, 1) := by decide +kernel
theorem dX9_isThere_1 : decode cX9_isThere 1 = .ok (.iload_n 1, 1) := by decide +kernel
theorem dX9_isThere_2 : decode cX9_isThere 2 = .ok (.invokevirtual 60, 3) := by decide +kernel
theorem dX9_isThere_5 : decode cX9_isThere 5 = .ok (.ifCond .eq 30, 3) := by decide +kernel
theorem dX9_isThere_8 : decode cX9_isThere 8 = .ok (.iload_n 2, 1) := by decide +kernel
theorem dX9_isThere_9 : decode cX9_isThere 9 = .ok (.aload_n 0, 1) := by decide +kernel
theorem dX9_isThere_10 : decode cX9_isThere 10 = .ok (.getfield 9, 3) := by decide +kernel
theorem dX9_isThere_13 : decode cX9_isThere 13 = .ok (.iload_n 1, 1) := by decide +kernel
theorem dX9_isThere_14 : decode cX9_isThere 14 = .ok (.iaload, 1) := by decide +kernel
theorem dX9_isThere_15 : decode cX9_isThere 15 = .ok (.if_icmp .lt 20, 3) := by decide +kernel
theorem dX9_isThere_18 : decode cX9_isThere 18 = .ok (.aload_n 0, 1) := by decide +kernel
theorem dX9_isThere_19 : decode cX9_isThere 19 = .ok (.getfield 15, 3) := by decide +kernel
theorem dX9_isThere_22 : decode cX9_isThere 22 = .ok (.iload_n 1, 1) := by decide +kernel
theorem dX9_isThere_23 : decode cX9_isThere 23 = .ok (.iaload, 1) := by decide +kernel
theorem dX9_isThere_24 : decode cX9_isThere 24 = .ok (.iload_n 2, 1) := by decide +kernel
theorem dX9_isThere_25 : decode cX9_isThere 25 = .ok (.invokestatic 64, 3) := by decide +kernel
theorem dX9_isThere_28 : decode cX9_isThere 28 = .ok (.ifCond .ne 7, 3) := by decide +kernel
theorem dX9_isThere_31 : decode cX9_isThere 31 = .ok (.iconst 1, 1) := by decide +kernel
theorem dX9_isThere_32 : decode cX9_isThere 32 = .ok (.goto 4, 3) := by decide +kernel
theorem dX9_isThere_35 : decode cX9_isThere 35 = .ok (.iconst 0, 1) := by decide +kernel
theorem dX9_isThere_36 : decode cX9_isThere 36 = .ok (.ireturn, 1) := by decide +kernel
theorem dX9_isSince_0 : decode cX9_isSince 0 = .ok (.iload_n 0, 1) := by decide +kernel
theorem dX9_isSince_1 : decode cX9_isSince 1 = .ok (.bipush (-2), 2) := by decide +kernel
theorem dX9_isSince_3 : decode cX9_isSince 3 = .ok (.if_icmp .eq 12, 3) := by decide +kernel
theorem dX9_isSince_6 : decode cX9_isSince 6 = .ok (.iload_n 1, 1) := by decide +kernel
theorem dX9_isSince_7 : decode cX9_isSince 7 = .ok (.iload_n 0, 1) := by decide +kernel
theorem dX9_isSince_8 : decode cX9_isSince 8 = .ok (.if_icmp .lt 7, 3) := by decide +kernel
theorem dX9_isSince_11 : decode cX9_isSince 11 = .ok (.iconst 1, 1) := by decide +kernel
theorem dX9_isSince_12 : decode cX9_isSince 12 = .ok (.goto 4, 3) := by decide +kernel
theorem dX9_isSince_15 : decode cX9_isSince 15 = .ok (.iconst 0, 1) := by decide +kernel
theorem dX9_isSince_16 : decode cX9_isSince 16 = .ok (.ireturn, 1) := by decide +kernel
theorem dX9_valueOn_0 : decode cX9_valueOn 0 = .ok (.aload_n 0, 1) := by decide +kernel
theorem dX9_valueOn_1 : decode cX9_valueOn 1 = .ok (.iload_n 1, 1) := by decide +kernel
theorem dX9_valueOn_2 : decode cX9_valueOn 2 = .ok (.invokevirtual 60, 3) := by decide +kernel
theorem dX9_valueOn_5 : decode cX9_valueOn 5 = .ok (.ifCond .eq 34, 3) := by decide +kernel
theorem dX9_valueOn_8 : decode cX9_valueOn 8 = .ok (.aload_n 0, 1) := by decide +kernel
theorem dX9_valueOn_9 : decode cX9_valueOn 9 = .ok (.getfield 39, 3) := by decide +kernel
theorem dX9_valueOn_12 : decode cX9_valueOn 12 = .ok (.iload_n 2, 1) := by decide +kernel
theorem dX9_valueOn_13 : decode cX9_valueOn 13 = .ok (.invokevirtual 68, 3) := by decide +kernel
theorem dX9_valueOn_16 : decode cX9_valueOn 16 = .ok (.ifCond .eq 23, 3) := by decide +kernel
theorem dX9_valueOn_19 : decode cX9_valueOn 19 = .ok (.iload 4, 2) := by decide +kernel
theorem dX9_valueOn_21 : decode cX9_valueOn 21 = .ok (.iconst 0, 1) := by decide +kernel
theorem dX9_valueOn_22 : decode cX9_valueOn 22 = .ok (.iconst 4, 1) := by decide +kernel
theorem dX9_valueOn_23 : decode cX9_valueOn 23 = .ok (.invokestatic 73, 3) := by decide +kernel
theorem dX9_valueOn_26 : decode cX9_valueOn 26 = .ok (.ifCond .eq 13, 3) := by decide +kernel
theorem dX9_valueOn_29 : decode cX9_valueOn 29 = .ok (.iload_n 3, 1) := by decide +kernel
theorem dX9_valueOn_30 : decode cX9_valueOn 30 = .ok (.aload_n 0, 1) := by decide +kernel
theorem dX9_valueOn_31 : decode cX9_valueOn 31 = .ok (.getfield 9, 3) := by decide +kernel
theorem dX9_valueOn_34 : decode cX9_valueOn 34 = .ok (.iload_n 1, 1) := by decide +kernel
theorem dX9_valueOn_35 : decode cX9_valueOn 35 = .ok (.iaload, 1) := by decide +kernel
theorem dX9_valueOn_36 : decode cX9_valueOn 36 = .ok (.if_icmp .ge 6, 3) := by decide +kernel
theorem dX9_valueOn_39 : decode cX9_valueOn 39 = .ok (.bipush (-2), 2) := by decide +kernel
theorem dX9_valueOn_41 : decode cX9_valueOn 41 = .ok (.ireturn, 1) := by decide +kernel
theorem dX9_valueOn_42 : decode cX9_valueOn 42 = .ok (.iload_n 1, 1) := by decide +kernel
theorem dX9_valueOn_43 : decode cX9_valueOn 43 = .ok (.bipush 6, 2) := by decide +kernel
theorem dX9_valueOn_45 : decode cX9_valueOn 45 = .ok (.imul, 1) := by decide +kernel
theorem dX9_valueOn_46 : decode cX9_valueOn 46 = .ok (.iload_n 2, 1) := by decide +kernel
theorem dX9_valueOn_47 : decode cX9_valueOn 47 = .ok (.iadd, 1) := by decide +kernel
theorem dX9_valueOn_48 : decode cX9_valueOn 48 = .ok (.istore 5, 2) := by decide +kernel
theorem dX9_valueOn_50 : decode cX9_valueOn 50 = .ok (.aload_n 0, 1) := by decide +kernel
theorem dX9_valueOn_51 : decode cX9_valueOn 51 = .ok (.getfield 18, 3) := by decide +kernel
theorem dX9_valueOn_54 : decode cX9_valueOn 54 = .ok (.iload_n 1, 1) := by decide +kernel
theorem dX9_valueOn_55 : decode cX9_valueOn 55 = .ok (.iaload, 1) := by decide +kernel
theorem dX9_valueOn_56 : decode cX9_valueOn 56 = .ok (.iload_n 3, 1) := by decide +kernel
theorem dX9_valueOn_57 : decode cX9_valueOn 57 = .ok (.invokestatic 64, 3) := by decide +kernel
theorem dX9_valueOn_60 : decode cX9_valueOn 60 = .ok (.ifCond .eq 13, 3) := by decide +kernel
theorem dX9_valueOn_63 : decode cX9_valueOn 63 = .ok (.aload_n 0, 1) := by decide +kernel
theorem dX9_valueOn_64 : decode cX9_valueOn 64 = .ok (.getfield 30, 3) := by decide +kernel
theorem dX9_valueOn_67 : decode cX9_valueOn 67 = .ok (.iload 5, 2) := by decide +kernel
theorem dX9_valueOn_69 : decode cX9_valueOn 69 = .ok (.iaload, 1) := by decide +kernel
theorem dX9_valueOn_70 : decode cX9_valueOn 70 = .ok (.goto 10, 3) := by decide +kernel
theorem dX9_valueOn_73 : decode cX9_valueOn 73 = .ok (.aload_n 0, 1) := by decide +kernel
theorem dX9_valueOn_74 : decode cX9_valueOn 74 = .ok (.getfield 27, 3) := by decide +kernel
theorem dX9_valueOn_77 : decode cX9_valueOn 77 = .ok (.iload 5, 2) := by decide +kernel
theorem dX9_valueOn_79 : decode cX9_valueOn 79 = .ok (.iaload, 1) := by decide +kernel
theorem dX9_valueOn_80 : decode cX9_valueOn 80 = .ok (.istore 6, 2) := by decide +kernel
theorem dX9_valueOn_82 : decode cX9_valueOn 82 = .ok (.iload 6, 2) := by decide +kernel
theorem dX9_valueOn_84 : decode cX9_valueOn 84 = .ok (.iconst (-1), 1) := by decide +kernel
theorem dX9_valueOn_85 : decode cX9_valueOn 85 = .ok (.if_icmp .ne 33, 3) := by decide +kernel
theorem dX9_valueOn_88 : decode cX9_valueOn 88 = .ok (.aload_n 0, 1) := by decide +kernel
theorem dX9_valueOn_89 : decode cX9_valueOn 89 = .ok (.getfield 21, 3) := by decide +kernel
theorem dX9_valueOn_92 : decode cX9_valueOn 92 = .ok (.iload_n 1, 1) := by decide +kernel
theorem dX9_valueOn_93 : decode cX9_valueOn 93 = .ok (.iaload, 1) := by decide +kernel
theorem dX9_valueOn_94 : decode cX9_valueOn 94 = .ok (.iload_n 3, 1) := by decide +kernel
theorem dX9_valueOn_95 : decode cX9_valueOn 95 = .ok (.invokestatic 64, 3) := by decide +kernel
theorem dX9_valueOn_98 : decode cX9_valueOn 98 = .ok (.ifCond .eq 20, 3) := by decide +kernel
theorem dX9_valueOn_101 : decode cX9_valueOn 101 = .ok (.aload_n 0, 1) := by decide +kernel
theorem dX9_valueOn_102 : decode cX9_valueOn 102 = .ok (.getfield 33, 3) := by decide +kernel
theorem dX9_valueOn_105 : decode cX9_valueOn 105 = .ok (.iload 4, 2) := by decide +kernel
theorem dX9_valueOn_107 : decode cX9_valueOn 107 = .ok (.sipush 360, 3) := by decide +kernel
theorem dX9_valueOn_110 : decode cX9_valueOn 110 = .ok (.imul, 1) := by decide +kernel
theorem dX9_valueOn_111 : decode cX9_valueOn 111 = .ok (.iload 5, 2) := by decide +kernel
theorem dX9_valueOn_113 : decode cX9_valueOn 113 = .ok (.iadd, 1) := by decide +kernel
theorem dX9_valueOn_114 : decode cX9_valueOn 114 = .ok (.iaload, 1) := by decide +kernel
theorem dX9_valueOn_115 : decode cX9_valueOn 115 = .ok (.goto 5, 3) := by decide +kernel
theorem dX9_valueOn_118 : decode cX9_valueOn 118 = .ok (.iload 6, 2) := by decide +kernel
theorem dX9_valueOn_120 : decode cX9_valueOn 120 = .ok (.ireturn, 1) := by decide +kernel
theorem dX9_load_0 : decode cX9_load 0 = .ok (.iconst 0, 1) := by decide +kernel
theorem dX9_load_1 : decode cX9_load 1 = .ok (.istore 5, 2) := by decide +kernel
theorem dX9_load_3 : decode cX9_load 3 = .ok (.iload 5, 2) := by decide +kernel
theorem dX9_load_5 : decode cX9_load 5 = .ok (.aload 4, 2) := by decide +kernel
theorem dX9_load_7 : decode cX9_load 7 = .ok (.arraylength, 1) := by decide +kernel
theorem dX9_load_8 : decode cX9_load 8 = .ok (.if_icmp .ge 23, 3) := by decide +kernel
theorem dX9_load_11 : decode cX9_load 11 = .ok (.aload 4, 2) := by decide +kernel
theorem dX9_load_13 : decode cX9_load 13 = .ok (.iload 5, 2) := by decide +kernel
theorem dX9_load_15 : decode cX9_load 15 = .ok (.aload_n 0, 1) := by decide +kernel
theorem dX9_load_16 : decode cX9_load 16 = .ok (.iload_n 1, 1) := by decide +kernel
theorem dX9_load_17 : decode cX9_load 17 = .ok (.iload 5, 2) := by decide +kernel
theorem dX9_load_19 : decode cX9_load 19 = .ok (.iload_n 2, 1) := by decide +kernel
theorem dX9_load_20 : decode cX9_load 20 = .ok (.iload_n 3, 1) := by decide +kernel
theorem dX9_load_21 : decode cX9_load 21 = .ok (.invokevirtual 77, 3) := by decide +kernel
theorem dX9_load_24 : decode cX9_load 24 = .ok (.iastore, 1) := by decide +kernel
theorem dX9_load_25 : decode cX9_load 25 = .ok (.iinc 5 1, 3) := by decide +kernel
theorem dX9_load_28 : decode cX9_load 28 = .ok (.goto (-25), 3) := by decide +kernel
theorem dX9_load_31 : decode cX9_load 31 = .ok (.return_, 1) := by decide +kernel
theorem dX9_loadNow_0 : decode cX9_loadNow 0 = .ok (.aload_n 0, 1) := by decide +kernel
theorem dX9_loadNow_1 : decode cX9_loadNow 1 = .ok (.iload_n 1, 1) := by decide +kernel
theorem dX9_loadNow_2 : decode cX9_loadNow 2 = .ok (.aload_n 0, 1) := by decide +kernel
theorem dX9_loadNow_3 : decode cX9_loadNow 3 = .ok (.getfield 47, 3) := by decide +kernel
theorem dX9_loadNow_6 : decode cX9_loadNow 6 = .ok (.iconst 0, 1) := by decide +kernel
theorem dX9_loadNow_7 : decode cX9_loadNow 7 = .ok (.aload_n 0, 1) := by decide +kernel
theorem dX9_loadNow_8 : decode cX9_loadNow 8 = .ok (.getfield 36, 3) := by decide +kernel
theorem dX9_loadNow_11 : decode cX9_loadNow 11 = .ok (.invokevirtual 81, 3) := by decide +kernel
theorem dX9_loadNow_14 : decode cX9_loadNow 14 = .ok (.return_, 1) := by decide +kernel
theorem dX9_ruleThatHolds_0 : decode cX9_ruleThatHolds 0 = .ok (.aload_n 0, 1) := by decide +kernel
theorem dX9_ruleThatHolds_1 : decode cX9_ruleThatHolds 1 = .ok (.iload_n 1, 1) := by decide +kernel
theorem dX9_ruleThatHolds_2 : decode cX9_ruleThatHolds 2 = .ok (.invokevirtual 85, 3) := by decide +kernel
theorem dX9_ruleThatHolds_5 : decode cX9_ruleThatHolds 5 = .ok (.aload_n 0, 1) := by decide +kernel
theorem dX9_ruleThatHolds_6 : decode cX9_ruleThatHolds 6 = .ok (.getfield 39, 3) := by decide +kernel
theorem dX9_ruleThatHolds_9 : decode cX9_ruleThatHolds 9 = .ok (.aload_n 0, 1) := by decide +kernel
theorem dX9_ruleThatHolds_10 : decode cX9_ruleThatHolds 10 = .ok (.getfield 36, 3) := by decide +kernel
theorem dX9_ruleThatHolds_13 : decode cX9_ruleThatHolds 13 = .ok (.invokevirtual 89, 3) := by decide +kernel
theorem dX9_ruleThatHolds_16 : decode cX9_ruleThatHolds 16 = .ok (.ireturn, 1) := by decide +kernel
theorem dX9_countGaps_0 : decode cX9_countGaps 0 = .ok (.aload_n 0, 1) := by decide +kernel
theorem dX9_countGaps_1 : decode cX9_countGaps 1 = .ok (.iload_n 1, 1) := by decide +kernel
theorem dX9_countGaps_2 : decode cX9_countGaps 2 = .ok (.invokevirtual 85, 3) := by decide +kernel
theorem dX9_countGaps_5 : decode cX9_countGaps 5 = .ok (.aload_n 0, 1) := by decide +kernel
theorem dX9_countGaps_6 : decode cX9_countGaps 6 = .ok (.getfield 39, 3) := by decide +kernel
theorem dX9_countGaps_9 : decode cX9_countGaps 9 = .ok (.aload_n 0, 1) := by decide +kernel
theorem dX9_countGaps_10 : decode cX9_countGaps 10 = .ok (.getfield 36, 3) := by decide +kernel
theorem dX9_countGaps_13 : decode cX9_countGaps 13 = .ok (.invokevirtual 93, 3) := by decide +kernel
theorem dX9_countGaps_16 : decode cX9_countGaps 16 = .ok (.invokestatic 96, 3) := by decide +kernel
theorem dX9_countGaps_19 : decode cX9_countGaps 19 = .ok (.ireturn, 1) := by decide +kernel
theorem dX9_canBeMended_0 : decode cX9_canBeMended 0 = .ok (.aload_n 0, 1) := by decide +kernel
theorem dX9_canBeMended_1 : decode cX9_canBeMended 1 = .ok (.iload_n 1, 1) := by decide +kernel
theorem dX9_canBeMended_2 : decode cX9_canBeMended 2 = .ok (.invokevirtual 60, 3) := by decide +kernel
theorem dX9_canBeMended_5 : decode cX9_canBeMended 5 = .ok (.ifCond .eq 39, 3) := by decide +kernel
theorem dX9_canBeMended_8 : decode cX9_canBeMended 8 = .ok (.aload_n 0, 1) := by decide +kernel
theorem dX9_canBeMended_9 : decode cX9_canBeMended 9 = .ok (.iload_n 1, 1) := by decide +kernel
theorem dX9_canBeMended_10 : decode cX9_canBeMended 10 = .ok (.invokevirtual 102, 3) := by decide +kernel
theorem dX9_canBeMended_13 : decode cX9_canBeMended 13 = .ok (.bipush (-2), 2) := by decide +kernel
theorem dX9_canBeMended_15 : decode cX9_canBeMended 15 = .ok (.if_icmp .eq 29, 3) := by decide +kernel
theorem dX9_canBeMended_18 : decode cX9_canBeMended 18 = .ok (.aload_n 0, 1) := by decide +kernel
theorem dX9_canBeMended_19 : decode cX9_canBeMended 19 = .ok (.getfield 15, 3) := by decide +kernel
theorem dX9_canBeMended_22 : decode cX9_canBeMended 22 = .ok (.iload_n 1, 1) := by decide +kernel
theorem dX9_canBeMended_23 : decode cX9_canBeMended 23 = .ok (.iaload, 1) := by decide +kernel
theorem dX9_canBeMended_24 : decode cX9_canBeMended 24 = .ok (.bipush (-2), 2) := by decide +kernel
theorem dX9_canBeMended_26 : decode cX9_canBeMended 26 = .ok (.if_icmp .ne 18, 3) := by decide +kernel
theorem dX9_canBeMended_29 : decode cX9_canBeMended 29 = .ok (.aload_n 0, 1) := by decide +kernel
theorem dX9_canBeMended_30 : decode cX9_canBeMended 30 = .ok (.getfield 18, 3) := by decide +kernel
theorem dX9_canBeMended_33 : decode cX9_canBeMended 33 = .ok (.iload_n 1, 1) := by decide +kernel
theorem dX9_canBeMended_34 : decode cX9_canBeMended 34 = .ok (.iaload, 1) := by decide +kernel
theorem dX9_canBeMended_35 : decode cX9_canBeMended 35 = .ok (.bipush (-2), 2) := by decide +kernel
theorem dX9_canBeMended_37 : decode cX9_canBeMended 37 = .ok (.if_icmp .ne 7, 3) := by decide +kernel
theorem dX9_canBeMended_40 : decode cX9_canBeMended 40 = .ok (.iconst 1, 1) := by decide +kernel
theorem dX9_canBeMended_41 : decode cX9_canBeMended 41 = .ok (.goto 4, 3) := by decide +kernel
theorem dX9_canBeMended_44 : decode cX9_canBeMended 44 = .ok (.iconst 0, 1) := by decide +kernel
theorem dX9_canBeMended_45 : decode cX9_canBeMended 45 = .ok (.ireturn, 1) := by decide +kernel
theorem dX9_canBeFilled_0 : decode cX9_canBeFilled 0 = .ok (.aload_n 0, 1) := by decide +kernel
theorem dX9_canBeFilled_1 : decode cX9_canBeFilled 1 = .ok (.iload_n 1, 1) := by decide +kernel
theorem dX9_canBeFilled_2 : decode cX9_canBeFilled 2 = .ok (.invokevirtual 60, 3) := by decide +kernel
theorem dX9_canBeFilled_5 : decode cX9_canBeFilled 5 = .ok (.ifCond .eq 47, 3) := by decide +kernel
theorem dX9_canBeFilled_8 : decode cX9_canBeFilled 8 = .ok (.aload_n 0, 1) := by decide +kernel
theorem dX9_canBeFilled_9 : decode cX9_canBeFilled 9 = .ok (.iload_n 1, 1) := by decide +kernel
theorem dX9_canBeFilled_10 : decode cX9_canBeFilled 10 = .ok (.invokevirtual 104, 3) := by decide +kernel
theorem dX9_canBeFilled_13 : decode cX9_canBeFilled 13 = .ok (.ifCond .le 39, 3) := by decide +kernel
theorem dX9_canBeFilled_16 : decode cX9_canBeFilled 16 = .ok (.aload_n 0, 1) := by decide +kernel
theorem dX9_canBeFilled_17 : decode cX9_canBeFilled 17 = .ok (.iload_n 1, 1) := by decide +kernel
theorem dX9_canBeFilled_18 : decode cX9_canBeFilled 18 = .ok (.invokevirtual 102, 3) := by decide +kernel
theorem dX9_canBeFilled_21 : decode cX9_canBeFilled 21 = .ok (.bipush (-2), 2) := by decide +kernel
theorem dX9_canBeFilled_23 : decode cX9_canBeFilled 23 = .ok (.if_icmp .ne 29, 3) := by decide +kernel
theorem dX9_canBeFilled_26 : decode cX9_canBeFilled 26 = .ok (.aload_n 0, 1) := by decide +kernel
theorem dX9_canBeFilled_27 : decode cX9_canBeFilled 27 = .ok (.getfield 15, 3) := by decide +kernel
theorem dX9_canBeFilled_30 : decode cX9_canBeFilled 30 = .ok (.iload_n 1, 1) := by decide +kernel
theorem dX9_canBeFilled_31 : decode cX9_canBeFilled 31 = .ok (.iaload, 1) := by decide +kernel
theorem dX9_canBeFilled_32 : decode cX9_canBeFilled 32 = .ok (.bipush (-2), 2) := by decide +kernel
theorem dX9_canBeFilled_34 : decode cX9_canBeFilled 34 = .ok (.if_icmp .ne 18, 3) := by decide +kernel
theorem dX9_canBeFilled_37 : decode cX9_canBeFilled 37 = .ok (.aload_n 0, 1) := by decide +kernel
theorem dX9_canBeFilled_38 : decode cX9_canBeFilled 38 = .ok (.getfield 21, 3) := by decide +kernel
theorem dX9_canBeFilled_41 : decode cX9_canBeFilled 41 = .ok (.iload_n 1, 1) := by decide +kernel
theorem dX9_canBeFilled_42 : decode cX9_canBeFilled 42 = .ok (.iaload, 1) := by decide +kernel
theorem dX9_canBeFilled_43 : decode cX9_canBeFilled 43 = .ok (.bipush (-2), 2) := by decide +kernel
theorem dX9_canBeFilled_45 : decode cX9_canBeFilled 45 = .ok (.if_icmp .ne 7, 3) := by decide +kernel
theorem dX9_canBeFilled_48 : decode cX9_canBeFilled 48 = .ok (.iconst 1, 1) := by decide +kernel
theorem dX9_canBeFilled_49 : decode cX9_canBeFilled 49 = .ok (.goto 4, 3) := by decide +kernel
theorem dX9_canBeFilled_52 : decode cX9_canBeFilled 52 = .ok (.iconst 0, 1) := by decide +kernel
theorem dX9_canBeFilled_53 : decode cX9_canBeFilled 53 = .ok (.ireturn, 1) := by decide +kernel
theorem dX9_mendWith_0 : decode cX9_mendWith 0 = .ok (.aload_n 0, 1) := by decide +kernel
theorem dX9_mendWith_1 : decode cX9_mendWith 1 = .ok (.iload_n 1, 1) := by decide +kernel
theorem dX9_mendWith_2 : decode cX9_mendWith 2 = .ok (.invokevirtual 60, 3) := by decide +kernel
theorem dX9_mendWith_5 : decode cX9_mendWith 5 = .ok (.ifCond .eq 25, 3) := by decide +kernel
theorem dX9_mendWith_8 : decode cX9_mendWith 8 = .ok (.aload_n 2, 1) := by decide +kernel
theorem dX9_mendWith_9 : decode cX9_mendWith 9 = .ok (.aload_n 0, 1) := by decide +kernel
theorem dX9_mendWith_10 : decode cX9_mendWith 10 = .ok (.getfield 30, 3) := by decide +kernel
theorem dX9_mendWith_13 : decode cX9_mendWith 13 = .ok (.iload_n 1, 1) := by decide +kernel
theorem dX9_mendWith_14 : decode cX9_mendWith 14 = .ok (.bipush 6, 2) := by decide +kernel
theorem dX9_mendWith_16 : decode cX9_mendWith 16 = .ok (.imul, 1) := by decide +kernel
theorem dX9_mendWith_17 : decode cX9_mendWith 17 = .ok (.invokestatic 50, 3) := by decide +kernel
theorem dX9_mendWith_20 : decode cX9_mendWith 20 = .ok (.aload_n 0, 1) := by decide +kernel
theorem dX9_mendWith_21 : decode cX9_mendWith 21 = .ok (.getfield 18, 3) := by decide +kernel
theorem dX9_mendWith_24 : decode cX9_mendWith 24 = .ok (.iload_n 1, 1) := by decide +kernel
theorem dX9_mendWith_25 : decode cX9_mendWith 25 = .ok (.aload_n 0, 1) := by decide +kernel
theorem dX9_mendWith_26 : decode cX9_mendWith 26 = .ok (.getfield 47, 3) := by decide +kernel
theorem dX9_mendWith_29 : decode cX9_mendWith 29 = .ok (.iastore, 1) := by decide +kernel
theorem dX9_mendWith_30 : decode cX9_mendWith 30 = .ok (.return_, 1) := by decide +kernel
theorem dX9_fillWith_0 : decode cX9_fillWith 0 = .ok (.aload_n 0, 1) := by decide +kernel
theorem dX9_fillWith_1 : decode cX9_fillWith 1 = .ok (.iload_n 1, 1) := by decide +kernel
theorem dX9_fillWith_2 : decode cX9_fillWith 2 = .ok (.invokevirtual 60, 3) := by decide +kernel
theorem dX9_fillWith_5 : decode cX9_fillWith 5 = .ok (.ifCond .eq 21, 3) := by decide +kernel
theorem dX9_fillWith_8 : decode cX9_fillWith 8 = .ok (.aload_n 3, 1) := by decide +kernel
theorem dX9_fillWith_9 : decode cX9_fillWith 9 = .ok (.aload_n 0, 1) := by decide +kernel
theorem dX9_fillWith_10 : decode cX9_fillWith 10 = .ok (.getfield 33, 3) := by decide +kernel
theorem dX9_fillWith_13 : decode cX9_fillWith 13 = .ok (.iload_n 2, 1) := by decide +kernel
theorem dX9_fillWith_14 : decode cX9_fillWith 14 = .ok (.sipush 360, 3) := by decide +kernel
theorem dX9_fillWith_17 : decode cX9_fillWith 17 = .ok (.imul, 1) := by decide +kernel
theorem dX9_fillWith_18 : decode cX9_fillWith 18 = .ok (.iload_n 1, 1) := by decide +kernel
theorem dX9_fillWith_19 : decode cX9_fillWith 19 = .ok (.bipush 6, 2) := by decide +kernel
theorem dX9_fillWith_21 : decode cX9_fillWith 21 = .ok (.imul, 1) := by decide +kernel
theorem dX9_fillWith_22 : decode cX9_fillWith 22 = .ok (.iadd, 1) := by decide +kernel
theorem dX9_fillWith_23 : decode cX9_fillWith 23 = .ok (.invokestatic 50, 3) := by decide +kernel
theorem dX9_fillWith_26 : decode cX9_fillWith 26 = .ok (.return_, 1) := by decide +kernel
theorem dX9_endFilling_0 : decode cX9_endFilling 0 = .ok (.aload_n 0, 1) := by decide +kernel
theorem dX9_endFilling_1 : decode cX9_endFilling 1 = .ok (.iload_n 1, 1) := by decide +kernel
theorem dX9_endFilling_2 : decode cX9_endFilling 2 = .ok (.invokevirtual 60, 3) := by decide +kernel
theorem dX9_endFilling_5 : decode cX9_endFilling 5 = .ok (.ifCond .eq 13, 3) := by decide +kernel
theorem dX9_endFilling_8 : decode cX9_endFilling 8 = .ok (.aload_n 0, 1) := by decide +kernel
theorem dX9_endFilling_9 : decode cX9_endFilling 9 = .ok (.getfield 21, 3) := by decide +kernel
theorem dX9_endFilling_12 : decode cX9_endFilling 12 = .ok (.iload_n 1, 1) := by decide +kernel
theorem dX9_endFilling_13 : decode cX9_endFilling 13 = .ok (.aload_n 0, 1) := by decide +kernel
theorem dX9_endFilling_14 : decode cX9_endFilling 14 = .ok (.getfield 47, 3) := by decide +kernel
theorem dX9_endFilling_17 : decode cX9_endFilling 17 = .ok (.iastore, 1) := by decide +kernel
theorem dX9_endFilling_18 : decode cX9_endFilling 18 = .ok (.return_, 1) := by decide +kernel
theorem dX9_countBroken_0 : decode cX9_countBroken 0 = .ok (.iconst 0, 1) := by decide +kernel
theorem dX9_countBroken_1 : decode cX9_countBroken 1 = .ok (.istore_n 1, 1) := by decide +kernel
theorem dX9_countBroken_2 : decode cX9_countBroken 2 = .ok (.iconst 0, 1) := by decide +kernel
theorem dX9_countBroken_3 : decode cX9_countBroken 3 = .ok (.istore_n 2, 1) := by decide +kernel
theorem dX9_countBroken_4 : decode cX9_countBroken 4 = .ok (.iload_n 2, 1) := by decide +kernel
theorem dX9_countBroken_5 : decode cX9_countBroken 5 = .ok (.aload_n 0, 1) := by decide +kernel
theorem dX9_countBroken_6 : decode cX9_countBroken 6 = .ok (.getfield 43, 3) := by decide +kernel
theorem dX9_countBroken_9 : decode cX9_countBroken 9 = .ok (.if_icmp .ge 34, 3) := by decide +kernel
theorem dX9_countBroken_12 : decode cX9_countBroken 12 = .ok (.aload_n 0, 1) := by decide +kernel
theorem dX9_countBroken_13 : decode cX9_countBroken 13 = .ok (.iload_n 2, 1) := by decide +kernel
theorem dX9_countBroken_14 : decode cX9_countBroken 14 = .ok (.aload_n 0, 1) := by decide +kernel
theorem dX9_countBroken_15 : decode cX9_countBroken 15 = .ok (.getfield 47, 3) := by decide +kernel
theorem dX9_countBroken_18 : decode cX9_countBroken 18 = .ok (.invokevirtual 107, 3) := by decide +kernel
theorem dX9_countBroken_21 : decode cX9_countBroken 21 = .ok (.ifCond .eq 16, 3) := by decide +kernel
theorem dX9_countBroken_24 : decode cX9_countBroken 24 = .ok (.aload_n 0, 1) := by decide +kernel
theorem dX9_countBroken_25 : decode cX9_countBroken 25 = .ok (.iload_n 2, 1) := by decide +kernel
theorem dX9_countBroken_26 : decode cX9_countBroken 26 = .ok (.invokevirtual 102, 3) := by decide +kernel
theorem dX9_countBroken_29 : decode cX9_countBroken 29 = .ok (.bipush (-2), 2) := by decide +kernel
theorem dX9_countBroken_31 : decode cX9_countBroken 31 = .ok (.if_icmp .eq 6, 3) := by decide +kernel
theorem dX9_countBroken_34 : decode cX9_countBroken 34 = .ok (.iinc 1 1, 3) := by decide +kernel
theorem dX9_countBroken_37 : decode cX9_countBroken 37 = .ok (.iinc 2 1, 3) := by decide +kernel
theorem dX9_countBroken_40 : decode cX9_countBroken 40 = .ok (.goto (-36), 3) := by decide +kernel
theorem dX9_countBroken_43 : decode cX9_countBroken 43 = .ok (.iload_n 1, 1) := by decide +kernel
theorem dX9_countBroken_44 : decode cX9_countBroken 44 = .ok (.ireturn, 1) := by decide +kernel
theorem dX9_countSince_0 : decode cX9_countSince 0 = .ok (.iconst 0, 1) := by decide +kernel
theorem dX9_countSince_1 : decode cX9_countSince 1 = .ok (.istore_n 2, 1) := by decide +kernel
theorem dX9_countSince_2 : decode cX9_countSince 2 = .ok (.iconst 0, 1) := by decide +kernel
theorem dX9_countSince_3 : decode cX9_countSince 3 = .ok (.istore_n 3, 1) := by decide +kernel
theorem dX9_countSince_4 : decode cX9_countSince 4 = .ok (.iload_n 3, 1) := by decide +kernel
theorem dX9_countSince_5 : decode cX9_countSince 5 = .ok (.aload_n 0, 1) := by decide +kernel
theorem dX9_countSince_6 : decode cX9_countSince 6 = .ok (.getfield 43, 3) := by decide +kernel
theorem dX9_countSince_9 : decode cX9_countSince 9 = .ok (.if_icmp .ge 26, 3) := by decide +kernel
theorem dX9_countSince_12 : decode cX9_countSince 12 = .ok (.iload_n 3, 1) := by decide +kernel
theorem dX9_countSince_13 : decode cX9_countSince 13 = .ok (.aload_n 1, 1) := by decide +kernel
theorem dX9_countSince_14 : decode cX9_countSince 14 = .ok (.arraylength, 1) := by decide +kernel
theorem dX9_countSince_15 : decode cX9_countSince 15 = .ok (.if_icmp .ge 20, 3) := by decide +kernel
theorem dX9_countSince_18 : decode cX9_countSince 18 = .ok (.aload_n 1, 1) := by decide +kernel
theorem dX9_countSince_19 : decode cX9_countSince 19 = .ok (.iload_n 3, 1) := by decide +kernel
theorem dX9_countSince_20 : decode cX9_countSince 20 = .ok (.iaload, 1) := by decide +kernel
theorem dX9_countSince_21 : decode cX9_countSince 21 = .ok (.bipush (-2), 2) := by decide +kernel
theorem dX9_countSince_23 : decode cX9_countSince 23 = .ok (.if_icmp .eq 6, 3) := by decide +kernel
theorem dX9_countSince_26 : decode cX9_countSince 26 = .ok (.iinc 2 1, 3) := by decide +kernel
theorem dX9_countSince_29 : decode cX9_countSince 29 = .ok (.iinc 3 1, 3) := by decide +kernel
theorem dX9_countSince_32 : decode cX9_countSince 32 = .ok (.goto (-28), 3) := by decide +kernel
theorem dX9_countSince_35 : decode cX9_countSince 35 = .ok (.iload_n 2, 1) := by decide +kernel
theorem dX9_countSince_36 : decode cX9_countSince 36 = .ok (.ireturn, 1) := by decide +kernel
theorem dX10_init_0 : decode cX10_init 0 = .ok (.aload_n 0, 1) := by decide +kernel
theorem dX10_init_1 : decode cX10_init 1 = .ok (.invokespecial 3, 3) := by decide +kernel
theorem dX10_init_4 : decode cX10_init 4 = .ok (.aload_n 0, 1) := by decide +kernel
theorem dX10_init_5 : decode cX10_init 5 = .ok (.bipush 12, 2) := by decide +kernel
theorem dX10_init_7 : decode cX10_init 7 = .ok (.newarray .int, 2) := by decide +kernel
theorem dX10_init_9 : decode cX10_init 9 = .ok (.putfield 9, 3) := by decide +kernel
theorem dX10_init_12 : decode cX10_init 12 = .ok (.aload_n 0, 1) := by decide +kernel
theorem dX10_init_13 : decode cX10_init 13 = .ok (.bipush 12, 2) := by decide +kernel
theorem dX10_init_15 : decode cX10_init 15 = .ok (.newarray .int, 2) := by decide +kernel
theorem dX10_init_17 : decode cX10_init 17 = .ok (.putfield 15, 3) := by decide +kernel
theorem dX10_init_20 : decode cX10_init 20 = .ok (.aload_n 0, 1) := by decide +kernel
theorem dX10_init_21 : decode cX10_init 21 = .ok (.bipush 12, 2) := by decide +kernel
theorem dX10_init_23 : decode cX10_init 23 = .ok (.newarray .int, 2) := by decide +kernel
theorem dX10_init_25 : decode cX10_init 25 = .ok (.putfield 18, 3) := by decide +kernel
theorem dX10_init_28 : decode cX10_init 28 = .ok (.return_, 1) := by decide +kernel
theorem dX10_clear_0 : decode cX10_clear 0 = .ok (.aload_n 0, 1) := by decide +kernel
theorem dX10_clear_1 : decode cX10_clear 1 = .ok (.iconst 0, 1) := by decide +kernel
theorem dX10_clear_2 : decode cX10_clear 2 = .ok (.putfield 21, 3) := by decide +kernel
theorem dX10_clear_5 : decode cX10_clear 5 = .ok (.aload_n 0, 1) := by decide +kernel
theorem dX10_clear_6 : decode cX10_clear 6 = .ok (.iconst 0, 1) := by decide +kernel
theorem dX10_clear_7 : decode cX10_clear 7 = .ok (.putfield 25, 3) := by decide +kernel
theorem dX10_clear_10 : decode cX10_clear 10 = .ok (.return_, 1) := by decide +kernel
theorem dX10_isFull_0 : decode cX10_isFull 0 = .ok (.aload_n 0, 1) := by decide +kernel
theorem dX10_isFull_1 : decode cX10_isFull 1 = .ok (.getfield 21, 3) := by decide +kernel
theorem dX10_isFull_4 : decode cX10_isFull 4 = .ok (.bipush 12, 2) := by decide +kernel
theorem dX10_isFull_6 : decode cX10_isFull 6 = .ok (.if_icmp .lt 7, 3) := by decide +kernel
theorem dX10_isFull_9 : decode cX10_isFull 9 = .ok (.iconst 1, 1) := by decide +kernel
theorem dX10_isFull_10 : decode cX10_isFull 10 = .ok (.goto 4, 3) := by decide +kernel
theorem dX10_isFull_13 : decode cX10_isFull 13 = .ok (.iconst 0, 1) := by decide +kernel
theorem dX10_isFull_14 : decode cX10_isFull 14 = .ok (.ireturn, 1) := by decide +kernel
theorem dX10_add_0 : decode cX10_add 0 = .ok (.aload_n 0, 1) := by decide +kernel
theorem dX10_add_1 : decode cX10_add 1 = .ok (.invokevirtual 28, 3) := by decide +kernel
theorem dX10_add_4 : decode cX10_add 4 = .ok (.ifCond .eq 4, 3) := by decide +kernel
theorem dX10_add_7 : decode cX10_add 7 = .ok (.return_, 1) := by decide +kernel
theorem dX10_add_8 : decode cX10_add 8 = .ok (.aload_n 0, 1) := by decide +kernel
theorem dX10_add_9 : decode cX10_add 9 = .ok (.getfield 9, 3) := by decide +kernel
theorem dX10_add_12 : decode cX10_add 12 = .ok (.aload_n 0, 1) := by decide +kernel
theorem dX10_add_13 : decode cX10_add 13 = .ok (.getfield 21, 3) := by decide +kernel
theorem dX10_add_16 : decode cX10_add 16 = .ok (.iload_n 1, 1) := by decide +kernel
theorem dX10_add_17 : decode cX10_add 17 = .ok (.iastore, 1) := by decide +kernel
theorem dX10_add_18 : decode cX10_add 18 = .ok (.aload_n 0, 1) := by decide +kernel
theorem dX10_add_19 : decode cX10_add 19 = .ok (.getfield 15, 3) := by decide +kernel
theorem dX10_add_22 : decode cX10_add 22 = .ok (.aload_n 0, 1) := by decide +kernel
theorem dX10_add_23 : decode cX10_add 23 = .ok (.getfield 21, 3) := by decide +kernel
theorem dX10_add_26 : decode cX10_add 26 = .ok (.iload_n 2, 1) := by decide +kernel
theorem dX10_add_27 : decode cX10_add 27 = .ok (.iastore, 1) := by decide +kernel
theorem dX10_add_28 : decode cX10_add 28 = .ok (.aload_n 0, 1) := by decide +kernel
theorem dX10_add_29 : decode cX10_add 29 = .ok (.getfield 18, 3) := by decide +kernel
theorem dX10_add_32 : decode cX10_add 32 = .ok (.aload_n 0, 1) := by decide +kernel
theorem dX10_add_33 : decode cX10_add 33 = .ok (.getfield 21, 3) := by decide +kernel
theorem dX10_add_36 : decode cX10_add 36 = .ok (.iload_n 3, 1) := by decide +kernel
theorem dX10_add_37 : decode cX10_add 37 = .ok (.iastore, 1) := by decide +kernel
theorem dX10_add_38 : decode cX10_add 38 = .ok (.aload_n 0, 1) := by decide +kernel
theorem dX10_add_39 : decode cX10_add 39 = .ok (.dup, 1) := by decide +kernel
theorem dX10_add_40 : decode cX10_add 40 = .ok (.getfield 21, 3) := by decide +kernel
theorem dX10_add_43 : decode cX10_add 43 = .ok (.iconst 1, 1) := by decide +kernel
theorem dX10_add_44 : decode cX10_add 44 = .ok (.iadd, 1) := by decide +kernel
theorem dX10_add_45 : decode cX10_add 45 = .ok (.putfield 21, 3) := by decide +kernel
theorem dX10_add_48 : decode cX10_add 48 = .ok (.aload_n 0, 1) := by decide +kernel
theorem dX10_add_49 : decode cX10_add 49 = .ok (.dup, 1) := by decide +kernel
theorem dX10_add_50 : decode cX10_add 50 = .ok (.getfield 25, 3) := by decide +kernel
theorem dX10_add_53 : decode cX10_add 53 = .ok (.iconst 1, 1) := by decide +kernel
theorem dX10_add_54 : decode cX10_add 54 = .ok (.iload_n 1, 1) := by decide +kernel
theorem dX10_add_55 : decode cX10_add 55 = .ok (.ishl, 1) := by decide +kernel
theorem dX10_add_56 : decode cX10_add 56 = .ok (.iload_n 3, 1) := by decide +kernel
theorem dX10_add_57 : decode cX10_add 57 = .ok (.ifCond .ge 11, 3) := by decide +kernel
theorem dX10_add_60 : decode cX10_add 60 = .ok (.iconst 1, 1) := by decide +kernel
theorem dX10_add_61 : decode cX10_add 61 = .ok (.iconst (-1), 1) := by decide +kernel
theorem dX10_add_62 : decode cX10_add 62 = .ok (.iload_n 3, 1) := by decide +kernel
theorem dX10_add_63 : decode cX10_add 63 = .ok (.isub, 1) := by decide +kernel
theorem dX10_add_64 : decode cX10_add 64 = .ok (.ishl, 1) := by decide +kernel
theorem dX10_add_65 : decode cX10_add 65 = .ok (.goto 4, 3) := by decide +kernel
theorem dX10_add_68 : decode cX10_add 68 = .ok (.iconst 0, 1) := by decide +kernel
theorem dX10_add_69 : decode cX10_add 69 = .ok (.ior, 1) := by decide +kernel
theorem dX10_add_70 : decode cX10_add 70 = .ok (.ior, 1) := by decide +kernel
theorem dX10_add_71 : decode cX10_add 71 = .ok (.putfield 25, 3) := by decide +kernel
theorem dX10_add_74 : decode cX10_add 74 = .ok (.return_, 1) := by decide +kernel
theorem dX10_holds_0 : decode cX10_holds 0 = .ok (.iconst 0, 1) := by decide +kernel
theorem dX10_holds_1 : decode cX10_holds 1 = .ok (.istore_n 2, 1) := by decide +kernel
theorem dX10_holds_2 : decode cX10_holds 2 = .ok (.iload_n 2, 1) := by decide +kernel
theorem dX10_holds_3 : decode cX10_holds 3 = .ok (.aload_n 0, 1) := by decide +kernel
theorem dX10_holds_4 : decode cX10_holds 4 = .ok (.getfield 21, 3) := by decide +kernel
theorem dX10_holds_7 : decode cX10_holds 7 = .ok (.if_icmp .ge 139, 3) := by decide +kernel
theorem dX10_holds_10 : decode cX10_holds 10 = .ok (.iload_n 2, 1) := by decide +kernel
theorem dX10_holds_11 : decode cX10_holds 11 = .ok (.bipush 12, 2) := by decide +kernel
theorem dX10_holds_13 : decode cX10_holds 13 = .ok (.if_icmp .ge 133, 3) := by decide +kernel
theorem dX10_holds_16 : decode cX10_holds 16 = .ok (.aload_n 1, 1) := by decide +kernel
theorem dX10_holds_17 : decode cX10_holds 17 = .ok (.aload_n 0, 1) := by decide +kernel
theorem dX10_holds_18 : decode cX10_holds 18 = .ok (.getfield 9, 3) := by decide +kernel
theorem dX10_holds_21 : decode cX10_holds 21 = .ok (.iload_n 2, 1) := by decide +kernel
theorem dX10_holds_22 : decode cX10_holds 22 = .ok (.iaload, 1) := by decide +kernel
theorem dX10_holds_23 : decode cX10_holds 23 = .ok (.invokestatic 32, 3) := by decide +kernel
theorem dX10_holds_26 : decode cX10_holds 26 = .ok (.istore_n 3, 1) := by decide +kernel
theorem dX10_holds_27 : decode cX10_holds 27 = .ok (.aload_n 0, 1) := by decide +kernel
theorem dX10_holds_28 : decode cX10_holds 28 = .ok (.getfield 18, 3) := by decide +kernel
theorem dX10_holds_31 : decode cX10_holds 31 = .ok (.iload_n 2, 1) := by decide +kernel
theorem dX10_holds_32 : decode cX10_holds 32 = .ok (.iaload, 1) := by decide +kernel
theorem dX10_holds_33 : decode cX10_holds 33 = .ok (.ifCond .lt 12, 3) := by decide +kernel
theorem dX10_holds_36 : decode cX10_holds 36 = .ok (.aload_n 0, 1) := by decide +kernel
theorem dX10_holds_37 : decode cX10_holds 37 = .ok (.getfield 18, 3) := by decide +kernel
theorem dX10_holds_40 : decode cX10_holds 40 = .ok (.iload_n 2, 1) := by decide +kernel
theorem dX10_holds_41 : decode cX10_holds 41 = .ok (.iaload, 1) := by decide +kernel
theorem dX10_holds_42 : decode cX10_holds 42 = .ok (.goto 15, 3) := by decide +kernel
theorem dX10_holds_45 : decode cX10_holds 45 = .ok (.aload_n 1, 1) := by decide +kernel
theorem dX10_holds_46 : decode cX10_holds 46 = .ok (.iconst (-1), 1) := by decide +kernel
theorem dX10_holds_47 : decode cX10_holds 47 = .ok (.aload_n 0, 1) := by decide +kernel
theorem dX10_holds_48 : decode cX10_holds 48 = .ok (.getfield 18, 3) := by decide +kernel
theorem dX10_holds_51 : decode cX10_holds 51 = .ok (.iload_n 2, 1) := by decide +kernel
theorem dX10_holds_52 : decode cX10_holds 52 = .ok (.iaload, 1) := by decide +kernel
theorem dX10_holds_53 : decode cX10_holds 53 = .ok (.isub, 1) := by decide +kernel
theorem dX10_holds_54 : decode cX10_holds 54 = .ok (.invokestatic 32, 3) := by decide +kernel
theorem dX10_holds_57 : decode cX10_holds 57 = .ok (.istore 4, 2) := by decide +kernel
theorem dX10_holds_59 : decode cX10_holds 59 = .ok (.aload_n 0, 1) := by decide +kernel
theorem dX10_holds_60 : decode cX10_holds 60 = .ok (.getfield 15, 3) := by decide +kernel
theorem dX10_holds_63 : decode cX10_holds 63 = .ok (.iload_n 2, 1) := by decide +kernel
theorem dX10_holds_64 : decode cX10_holds 64 = .ok (.iaload, 1) := by decide +kernel
theorem dX10_holds_65 : decode cX10_holds 65 = .ok (.bipush 61, 2) := by decide +kernel
theorem dX10_holds_67 : decode cX10_holds 67 = .ok (.if_icmp .ne 17, 3) := by decide +kernel
theorem dX10_holds_70 : decode cX10_holds 70 = .ok (.iload_n 3, 1) := by decide +kernel
theorem dX10_holds_71 : decode cX10_holds 71 = .ok (.iload 4, 2) := by decide +kernel
theorem dX10_holds_73 : decode cX10_holds 73 = .ok (.if_icmp .ne 7, 3) := by decide +kernel
theorem dX10_holds_76 : decode cX10_holds 76 = .ok (.iconst 1, 1) := by decide +kernel
theorem dX10_holds_77 : decode cX10_holds 77 = .ok (.goto 43, 3) := by decide +kernel
theorem dX10_holds_80 : decode cX10_holds 80 = .ok (.iconst 0, 1) := by decide +kernel
theorem dX10_holds_81 : decode cX10_holds 81 = .ok (.goto 39, 3) := by decide +kernel
theorem dX10_holds_84 : decode cX10_holds 84 = .ok (.aload_n 0, 1) := by decide +kernel
theorem dX10_holds_85 : decode cX10_holds 85 = .ok (.getfield 15, 3) := by decide +kernel
theorem dX10_holds_88 : decode cX10_holds 88 = .ok (.iload_n 2, 1) := by decide +kernel
theorem dX10_holds_89 : decode cX10_holds 89 = .ok (.iaload, 1) := by decide +kernel
theorem dX10_holds_90 : decode cX10_holds 90 = .ok (.bipush 60, 2) := by decide +kernel
theorem dX10_holds_92 : decode cX10_holds 92 = .ok (.if_icmp .ne 17, 3) := by decide +kernel
theorem dX10_holds_95 : decode cX10_holds 95 = .ok (.iload_n 3, 1) := by decide +kernel
theorem dX10_holds_96 : decode cX10_holds 96 = .ok (.iload 4, 2) := by decide +kernel
theorem dX10_holds_98 : decode cX10_holds 98 = .ok (.if_icmp .ge 7, 3) := by decide +kernel
theorem dX10_holds_101 : decode cX10_holds 101 = .ok (.iconst 1, 1) := by decide +kernel
theorem dX10_holds_102 : decode cX10_holds 102 = .ok (.goto 18, 3) := by decide +kernel
theorem dX10_holds_105 : decode cX10_holds 105 = .ok (.iconst 0, 1) := by decide +kernel
theorem dX10_holds_106 : decode cX10_holds 106 = .ok (.goto 14, 3) := by decide +kernel
theorem dX10_holds_109 : decode cX10_holds 109 = .ok (.iload_n 3, 1) := by decide +kernel
theorem dX10_holds_110 : decode cX10_holds 110 = .ok (.iload 4, 2) := by decide +kernel
theorem dX10_holds_112 : decode cX10_holds 112 = .ok (.if_icmp .le 7, 3) := by decide +kernel
theorem dX10_holds_115 : decode cX10_holds 115 = .ok (.iconst 1, 1) := by decide +kernel
theorem dX10_holds_116 : decode cX10_holds 116 = .ok (.goto 4, 3) := by decide +kernel
theorem dX10_holds_119 : decode cX10_holds 119 = .ok (.iconst 0, 1) := by decide +kernel
theorem dX10_holds_120 : decode cX10_holds 120 = .ok (.istore 5, 2) := by decide +kernel
theorem dX10_holds_122 : decode cX10_holds 122 = .ok (.iload 5, 2) := by decide +kernel
theorem dX10_holds_124 : decode cX10_holds 124 = .ok (.ifCond .eq 14, 3) := by decide +kernel
theorem dX10_holds_127 : decode cX10_holds 127 = .ok (.iload_n 3, 1) := by decide +kernel
theorem dX10_holds_128 : decode cX10_holds 128 = .ok (.iconst (-1), 1) := by decide +kernel
theorem dX10_holds_129 : decode cX10_holds 129 = .ok (.if_icmp .eq 9, 3) := by decide +kernel
theorem dX10_holds_132 : decode cX10_holds 132 = .ok (.iload 4, 2) := by decide +kernel
theorem dX10_holds_134 : decode cX10_holds 134 = .ok (.iconst (-1), 1) := by decide +kernel
theorem dX10_holds_135 : decode cX10_holds 135 = .ok (.if_icmp .ne 5, 3) := by decide +kernel
theorem dX10_holds_138 : decode cX10_holds 138 = .ok (.iconst 0, 1) := by decide +kernel
theorem dX10_holds_139 : decode cX10_holds 139 = .ok (.ireturn, 1) := by decide +kernel
theorem dX10_holds_140 : decode cX10_holds 140 = .ok (.iinc 2 1, 3) := by decide +kernel
theorem dX10_holds_143 : decode cX10_holds 143 = .ok (.goto (-141), 3) := by decide +kernel
theorem dX10_holds_146 : decode cX10_holds 146 = .ok (.iconst 1, 1) := by decide +kernel
theorem dX10_holds_147 : decode cX10_holds 147 = .ok (.ireturn, 1) := by decide +kernel
theorem dX11_init_0 : decode cX11_init 0 = .ok (.aload_n 0, 1) := by decide +kernel
theorem dX11_init_1 : decode cX11_init 1 = .ok (.invokespecial 1, 3) := by decide +kernel
theorem dX11_init_4 : decode cX11_init 4 = .ok (.aload_n 0, 1) := by decide +kernel
theorem dX11_init_5 : decode cX11_init 5 = .ok (.sipush 500, 3) := by decide +kernel
theorem dX11_init_8 : decode cX11_init 8 = .ok (.newarray .byte, 2) := by decide +kernel
theorem dX11_init_10 : decode cX11_init 10 = .ok (.putfield 9, 3) := by decide +kernel
theorem dX11_init_13 : decode cX11_init 13 = .ok (.aload_n 0, 1) := by decide +kernel
theorem dX11_init_14 : decode cX11_init 14 = .ok (.new 13, 3) := by decide +kernel
theorem dX11_init_17 : decode cX11_init 17 = .ok (.dup, 1) := by decide +kernel
theorem dX11_init_18 : decode cX11_init 18 = .ok (.invokespecial 15, 3) := by decide +kernel

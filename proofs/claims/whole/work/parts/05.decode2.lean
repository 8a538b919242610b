theorem dX11_init_21 : decode cX11_init 21 = .ok (.putfield 16, 3) := by decide +kernel
theorem dX11_init_24 : decode cX11_init 24 = .ok (.aload_n 0, 1) := by decide +kernel
theorem dX11_init_25 : decode cX11_init 25 = .ok (.new 20, 3) := by decide +kernel
theorem dX11_init_28 : decode cX11_init 28 = .ok (.dup, 1) := by decide +kernel
theorem dX11_init_29 : decode cX11_init 29 = .ok (.aload_n 0, 1) := by decide +kernel
theorem dX11_init_30 : decode cX11_init 30 = .ok (.getfield 9, 3) := by decide +kernel
theorem dX11_init_33 : decode cX11_init 33 = .ok (.aload_n 0, 1) := by decide +kernel
theorem dX11_init_34 : decode cX11_init 34 = .ok (.getfield 16, 3) := by decide +kernel
theorem dX11_init_37 : decode cX11_init 37 = .ok (.invokespecial 22, 3) := by decide +kernel
theorem dX11_init_40 : decode cX11_init 40 = .ok (.putfield 25, 3) := by decide +kernel
theorem dX11_init_43 : decode cX11_init 43 = .ok (.aload_n 0, 1) := by decide +kernel
theorem dX11_init_44 : decode cX11_init 44 = .ok (.new 29, 3) := by decide +kernel
theorem dX11_init_47 : decode cX11_init 47 = .ok (.dup, 1) := by decide +kernel
theorem dX11_init_48 : decode cX11_init 48 = .ok (.new 13, 3) := by decide +kernel
theorem dX11_init_51 : decode cX11_init 51 = .ok (.dup, 1) := by decide +kernel
theorem dX11_init_52 : decode cX11_init 52 = .ok (.invokespecial 15, 3) := by decide +kernel
theorem dX11_init_55 : decode cX11_init 55 = .ok (.invokespecial 31, 3) := by decide +kernel
theorem dX11_init_58 : decode cX11_init 58 = .ok (.putfield 34, 3) := by decide +kernel
theorem dX11_init_61 : decode cX11_init 61 = .ok (.aload_n 0, 1) := by decide +kernel
theorem dX11_init_62 : decode cX11_init 62 = .ok (.bipush 9, 2) := by decide +kernel
theorem dX11_init_64 : decode cX11_init 64 = .ok (.anewarray 38, 3) := by decide +kernel
theorem dX11_init_67 : decode cX11_init 67 = .ok (.putfield 40, 3) := by decide +kernel
theorem dX11_init_70 : decode cX11_init 70 = .ok (.iconst 0, 1) := by decide +kernel
theorem dX11_init_71 : decode cX11_init 71 = .ok (.istore_n 1, 1) := by decide +kernel
theorem dX11_init_72 : decode cX11_init 72 = .ok (.iload_n 1, 1) := by decide +kernel
theorem dX11_init_73 : decode cX11_init 73 = .ok (.aload_n 0, 1) := by decide +kernel
theorem dX11_init_74 : decode cX11_init 74 = .ok (.getfield 40, 3) := by decide +kernel
theorem dX11_init_77 : decode cX11_init 77 = .ok (.arraylength, 1) := by decide +kernel
theorem dX11_init_78 : decode cX11_init 78 = .ok (.if_icmp .ge 22, 3) := by decide +kernel
theorem dX11_init_81 : decode cX11_init 81 = .ok (.aload_n 0, 1) := by decide +kernel
theorem dX11_init_82 : decode cX11_init 82 = .ok (.getfield 40, 3) := by decide +kernel
theorem dX11_init_85 : decode cX11_init 85 = .ok (.iload_n 1, 1) := by decide +kernel
theorem dX11_init_86 : decode cX11_init 86 = .ok (.new 38, 3) := by decide +kernel
theorem dX11_init_89 : decode cX11_init 89 = .ok (.dup, 1) := by decide +kernel
theorem dX11_init_90 : decode cX11_init 90 = .ok (.invokespecial 44, 3) := by decide +kernel
theorem dX11_init_93 : decode cX11_init 93 = .ok (.aastore, 1) := by decide +kernel
theorem dX11_init_94 : decode cX11_init 94 = .ok (.iinc 1 1, 3) := by decide +kernel
theorem dX11_init_97 : decode cX11_init 97 = .ok (.goto (-25), 3) := by decide +kernel
theorem dX11_init_100 : decode cX11_init 100 = .ok (.aload_n 0, 1) := by decide +kernel
theorem dX11_init_101 : decode cX11_init 101 = .ok (.bipush 6, 2) := by decide +kernel
theorem dX11_init_103 : decode cX11_init 103 = .ok (.newarray .int, 2) := by decide +kernel
theorem dX11_init_105 : decode cX11_init 105 = .ok (.putfield 45, 3) := by decide +kernel
theorem dX11_init_108 : decode cX11_init 108 = .ok (.aload_n 0, 1) := by decide +kernel
theorem dX11_init_109 : decode cX11_init 109 = .ok (.getstatic 49, 3) := by decide +kernel
theorem dX11_init_112 : decode cX11_init 112 = .ok (.invokevirtual 52, 3) := by decide +kernel
theorem dX11_init_115 : decode cX11_init 115 = .ok (.checkcast 53, 3) := by decide +kernel
theorem dX11_init_118 : decode cX11_init 118 = .ok (.putfield 57, 3) := by decide +kernel
theorem dX11_init_121 : decode cX11_init 121 = .ok (.aload_n 0, 1) := by decide +kernel
theorem dX11_init_122 : decode cX11_init 122 = .ok (.new 60, 3) := by decide +kernel
theorem dX11_init_125 : decode cX11_init 125 = .ok (.dup, 1) := by decide +kernel
theorem dX11_init_126 : decode cX11_init 126 = .ok (.aload_n 0, 1) := by decide +kernel
theorem dX11_init_127 : decode cX11_init 127 = .ok (.getfield 34, 3) := by decide +kernel
theorem dX11_init_130 : decode cX11_init 130 = .ok (.invokespecial 62, 3) := by decide +kernel
theorem dX11_init_133 : decode cX11_init 133 = .ok (.putfield 65, 3) := by decide +kernel
theorem dX11_init_136 : decode cX11_init 136 = .ok (.aload_n 0, 1) := by decide +kernel
theorem dX11_init_137 : decode cX11_init 137 = .ok (.new 69, 3) := by decide +kernel
theorem dX11_init_140 : decode cX11_init 140 = .ok (.dup, 1) := by decide +kernel
theorem dX11_init_141 : decode cX11_init 141 = .ok (.aload_n 0, 1) := by decide +kernel
theorem dX11_init_142 : decode cX11_init 142 = .ok (.getfield 34, 3) := by decide +kernel
theorem dX11_init_145 : decode cX11_init 145 = .ok (.invokespecial 71, 3) := by decide +kernel
theorem dX11_init_148 : decode cX11_init 148 = .ok (.putfield 72, 3) := by decide +kernel
theorem dX11_init_151 : decode cX11_init 151 = .ok (.aload_n 0, 1) := by decide +kernel
theorem dX11_init_152 : decode cX11_init 152 = .ok (.new 76, 3) := by decide +kernel
theorem dX11_init_155 : decode cX11_init 155 = .ok (.dup, 1) := by decide +kernel
theorem dX11_init_156 : decode cX11_init 156 = .ok (.aload_n 0, 1) := by decide +kernel
theorem dX11_init_157 : decode cX11_init 157 = .ok (.getfield 72, 3) := by decide +kernel
theorem dX11_init_160 : decode cX11_init 160 = .ok (.invokespecial 78, 3) := by decide +kernel
theorem dX11_init_163 : decode cX11_init 163 = .ok (.putfield 81, 3) := by decide +kernel
theorem dX11_init_166 : decode cX11_init 166 = .ok (.aload_n 0, 1) := by decide +kernel
theorem dX11_init_167 : decode cX11_init 167 = .ok (.new 85, 3) := by decide +kernel
theorem dX11_init_170 : decode cX11_init 170 = .ok (.dup, 1) := by decide +kernel
theorem dX11_init_171 : decode cX11_init 171 = .ok (.aload_n 0, 1) := by decide +kernel
theorem dX11_init_172 : decode cX11_init 172 = .ok (.getfield 72, 3) := by decide +kernel
theorem dX11_init_175 : decode cX11_init 175 = .ok (.invokespecial 87, 3) := by decide +kernel
theorem dX11_init_178 : decode cX11_init 178 = .ok (.putfield 88, 3) := by decide +kernel
theorem dX11_init_181 : decode cX11_init 181 = .ok (.aload_n 0, 1) := by decide +kernel
theorem dX11_init_182 : decode cX11_init 182 = .ok (.new 92, 3) := by decide +kernel
theorem dX11_init_185 : decode cX11_init 185 = .ok (.dup, 1) := by decide +kernel
theorem dX11_init_186 : decode cX11_init 186 = .ok (.aload_n 0, 1) := by decide +kernel
theorem dX11_init_187 : decode cX11_init 187 = .ok (.getfield 72, 3) := by decide +kernel
theorem dX11_init_190 : decode cX11_init 190 = .ok (.invokespecial 94, 3) := by decide +kernel
theorem dX11_init_193 : decode cX11_init 193 = .ok (.putfield 95, 3) := by decide +kernel
theorem dX11_init_196 : decode cX11_init 196 = .ok (.aload_n 0, 1) := by decide +kernel
theorem dX11_init_197 : decode cX11_init 197 = .ok (.new 99, 3) := by decide +kernel
theorem dX11_init_200 : decode cX11_init 200 = .ok (.dup, 1) := by decide +kernel
theorem dX11_init_201 : decode cX11_init 201 = .ok (.invokespecial 101, 3) := by decide +kernel
theorem dX11_init_204 : decode cX11_init 204 = .ok (.putfield 102, 3) := by decide +kernel
theorem dX11_init_207 : decode cX11_init 207 = .ok (.return_, 1) := by decide +kernel
theorem dX11_feed_0 : decode cX11_feed 0 = .ok (.aload_n 0, 1) := by decide +kernel
theorem dX11_feed_1 : decode cX11_feed 1 = .ok (.getfield 106, 3) := by decide +kernel
theorem dX11_feed_4 : decode cX11_feed 4 = .ok (.sipush 480, 3) := by decide +kernel
theorem dX11_feed_7 : decode cX11_feed 7 = .ok (.if_icmp .le 5, 3) := by decide +kernel
theorem dX11_feed_10 : decode cX11_feed 10 = .ok (.iconst (-1), 1) := by decide +kernel
theorem dX11_feed_11 : decode cX11_feed 11 = .ok (.ireturn, 1) := by decide +kernel
theorem dX11_feed_12 : decode cX11_feed 12 = .ok (.aload_n 0, 1) := by decide +kernel
theorem dX11_feed_13 : decode cX11_feed 13 = .ok (.iload_n 1, 1) := by decide +kernel
theorem dX11_feed_14 : decode cX11_feed 14 = .ok (.invokevirtual 110, 3) := by decide +kernel
theorem dX11_feed_17 : decode cX11_feed 17 = .ok (.aload_n 0, 1) := by decide +kernel
theorem dX11_feed_18 : decode cX11_feed 18 = .ok (.iload_n 2, 1) := by decide +kernel
theorem dX11_feed_19 : decode cX11_feed 19 = .ok (.invokevirtual 110, 3) := by decide +kernel
theorem dX11_feed_22 : decode cX11_feed 22 = .ok (.aload_n 0, 1) := by decide +kernel
theorem dX11_feed_23 : decode cX11_feed 23 = .ok (.iload_n 3, 1) := by decide +kernel
theorem dX11_feed_24 : decode cX11_feed 24 = .ok (.invokevirtual 110, 3) := by decide +kernel
theorem dX11_feed_27 : decode cX11_feed 27 = .ok (.aload_n 0, 1) := by decide +kernel
theorem dX11_feed_28 : decode cX11_feed 28 = .ok (.iload 4, 2) := by decide +kernel
theorem dX11_feed_30 : decode cX11_feed 30 = .ok (.invokevirtual 110, 3) := by decide +kernel
theorem dX11_feed_33 : decode cX11_feed 33 = .ok (.aload_n 0, 1) := by decide +kernel
theorem dX11_feed_34 : decode cX11_feed 34 = .ok (.iload 5, 2) := by decide +kernel
theorem dX11_feed_36 : decode cX11_feed 36 = .ok (.invokevirtual 110, 3) := by decide +kernel
theorem dX11_feed_39 : decode cX11_feed 39 = .ok (.aload_n 0, 1) := by decide +kernel
theorem dX11_feed_40 : decode cX11_feed 40 = .ok (.getfield 106, 3) := by decide +kernel
theorem dX11_feed_43 : decode cX11_feed 43 = .ok (.ireturn, 1) := by decide +kernel
theorem dX11_layOnTape_0 : decode cX11_layOnTape 0 = .ok (.bipush 24, 2) := by decide +kernel
theorem dX11_layOnTape_2 : decode cX11_layOnTape 2 = .ok (.istore_n 2, 1) := by decide +kernel
theorem dX11_layOnTape_3 : decode cX11_layOnTape 3 = .ok (.iload_n 2, 1) := by decide +kernel
theorem dX11_layOnTape_4 : decode cX11_layOnTape 4 = .ok (.ifCond .lt 44, 3) := by decide +kernel
theorem dX11_layOnTape_7 : decode cX11_layOnTape 7 = .ok (.aload_n 0, 1) := by decide +kernel
theorem dX11_layOnTape_8 : decode cX11_layOnTape 8 = .ok (.getfield 106, 3) := by decide +kernel
theorem dX11_layOnTape_11 : decode cX11_layOnTape 11 = .ok (.aload_n 0, 1) := by decide +kernel
theorem dX11_layOnTape_12 : decode cX11_layOnTape 12 = .ok (.getfield 9, 3) := by decide +kernel
theorem dX11_layOnTape_15 : decode cX11_layOnTape 15 = .ok (.arraylength, 1) := by decide +kernel
theorem dX11_layOnTape_16 : decode cX11_layOnTape 16 = .ok (.if_icmp .ge 32, 3) := by decide +kernel
theorem dX11_layOnTape_19 : decode cX11_layOnTape 19 = .ok (.aload_n 0, 1) := by decide +kernel
theorem dX11_layOnTape_20 : decode cX11_layOnTape 20 = .ok (.getfield 9, 3) := by decide +kernel
theorem dX11_layOnTape_23 : decode cX11_layOnTape 23 = .ok (.aload_n 0, 1) := by decide +kernel
theorem dX11_layOnTape_24 : decode cX11_layOnTape 24 = .ok (.getfield 106, 3) := by decide +kernel
theorem dX11_layOnTape_27 : decode cX11_layOnTape 27 = .ok (.iload_n 1, 1) := by decide +kernel
theorem dX11_layOnTape_28 : decode cX11_layOnTape 28 = .ok (.iload_n 2, 1) := by decide +kernel
theorem dX11_layOnTape_29 : decode cX11_layOnTape 29 = .ok (.ishr, 1) := by decide +kernel
theorem dX11_layOnTape_30 : decode cX11_layOnTape 30 = .ok (.i2b, 1) := by decide +kernel
theorem dX11_layOnTape_31 : decode cX11_layOnTape 31 = .ok (.bastore, 1) := by decide +kernel
theorem dX11_layOnTape_32 : decode cX11_layOnTape 32 = .ok (.aload_n 0, 1) := by decide +kernel
theorem dX11_layOnTape_33 : decode cX11_layOnTape 33 = .ok (.dup, 1) := by decide +kernel
theorem dX11_layOnTape_34 : decode cX11_layOnTape 34 = .ok (.getfield 106, 3) := by decide +kernel
theorem dX11_layOnTape_37 : decode cX11_layOnTape 37 = .ok (.iconst 1, 1) := by decide +kernel
theorem dX11_layOnTape_38 : decode cX11_layOnTape 38 = .ok (.iadd, 1) := by decide +kernel
theorem dX11_layOnTape_39 : decode cX11_layOnTape 39 = .ok (.putfield 106, 3) := by decide +kernel
theorem dX11_layOnTape_42 : decode cX11_layOnTape 42 = .ok (.iinc 2 (-8), 3) := by decide +kernel
theorem dX11_layOnTape_45 : decode cX11_layOnTape 45 = .ok (.goto (-42), 3) := by decide +kernel
theorem dX11_layOnTape_48 : decode cX11_layOnTape 48 = .ok (.return_, 1) := by decide +kernel
theorem dX11_isOnTape_0 : decode cX11_isOnTape 0 = .ok (.iload_n 1, 1) := by decide +kernel
theorem dX11_isOnTape_1 : decode cX11_isOnTape 1 = .ok (.ifCond .lt 15, 3) := by decide +kernel
theorem dX11_isOnTape_4 : decode cX11_isOnTape 4 = .ok (.iload_n 1, 1) := by decide +kernel
theorem dX11_isOnTape_5 : decode cX11_isOnTape 5 = .ok (.aload_n 0, 1) := by decide +kernel
theorem dX11_isOnTape_6 : decode cX11_isOnTape 6 = .ok (.getfield 106, 3) := by decide +kernel
theorem dX11_isOnTape_9 : decode cX11_isOnTape 9 = .ok (.if_icmp .gt 7, 3) := by decide +kernel
theorem dX11_isOnTape_12 : decode cX11_isOnTape 12 = .ok (.iconst 1, 1) := by decide +kernel
theorem dX11_isOnTape_13 : decode cX11_isOnTape 13 = .ok (.goto 4, 3) := by decide +kernel
theorem dX11_isOnTape_16 : decode cX11_isOnTape 16 = .ok (.iconst 0, 1) := by decide +kernel
theorem dX11_isOnTape_17 : decode cX11_isOnTape 17 = .ok (.ireturn, 1) := by decide +kernel
theorem dX11_book_0 : decode cX11_book 0 = .ok (.aload_n 0, 1) := by decide +kernel
theorem dX11_book_1 : decode cX11_book 1 = .ok (.aload_n 0, 1) := by decide +kernel
theorem dX11_book_2 : decode cX11_book 2 = .ok (.iload_n 1, 1) := by decide +kernel
theorem dX11_book_3 : decode cX11_book 3 = .ok (.invokevirtual 114, 3) := by decide +kernel
theorem dX11_book_6 : decode cX11_book 6 = .ok (.ifCond .eq 7, 3) := by decide +kernel
theorem dX11_book_9 : decode cX11_book 9 = .ok (.iconst 0, 1) := by decide +kernel
theorem dX11_book_10 : decode cX11_book 10 = .ok (.goto 4, 3) := by decide +kernel
theorem dX11_book_13 : decode cX11_book 13 = .ok (.iconst 2, 1) := by decide +kernel
theorem dX11_book_14 : decode cX11_book 14 = .ok (.putfield 118, 3) := by decide +kernel
theorem dX11_book_17 : decode cX11_book 17 = .ok (.aload_n 0, 1) := by decide +kernel
theorem dX11_book_18 : decode cX11_book 18 = .ok (.getfield 118, 3) := by decide +kernel
theorem dX11_book_21 : decode cX11_book 21 = .ok (.ifCond .eq 5, 3) := by decide +kernel
theorem dX11_book_24 : decode cX11_book 24 = .ok (.iconst (-1), 1) := by decide +kernel
theorem dX11_book_25 : decode cX11_book 25 = .ok (.ireturn, 1) := by decide +kernel
theorem dX11_book_26 : decode cX11_book 26 = .ok (.aload_n 0, 1) := by decide +kernel
theorem dX11_book_27 : decode cX11_book 27 = .ok (.iconst 0, 1) := by decide +kernel
theorem dX11_book_28 : decode cX11_book 28 = .ok (.putfield 106, 3) := by decide +kernel
theorem dX11_book_31 : decode cX11_book 31 = .ok (.aload_n 0, 1) := by decide +kernel
theorem dX11_book_32 : decode cX11_book 32 = .ok (.getfield 25, 3) := by decide +kernel
theorem dX11_book_35 : decode cX11_book 35 = .ok (.iload_n 1, 1) := by decide +kernel
theorem dX11_book_36 : decode cX11_book 36 = .ok (.aload_n 0, 1) := by decide +kernel
theorem dX11_book_37 : decode cX11_book 37 = .ok (.getfield 16, 3) := by decide +kernel
theorem dX11_book_40 : decode cX11_book 40 = .ok (.invokevirtual 121, 3) := by decide +kernel
theorem dX11_book_43 : decode cX11_book 43 = .ok (.ifCond .ne 10, 3) := by decide +kernel
theorem dX11_book_46 : decode cX11_book 46 = .ok (.aload_n 0, 1) := by decide +kernel
theorem dX11_book_47 : decode cX11_book 47 = .ok (.iconst 4, 1) := by decide +kernel
theorem dX11_book_48 : decode cX11_book 48 = .ok (.putfield 118, 3) := by decide +kernel
theorem dX11_book_51 : decode cX11_book 51 = .ok (.iconst (-1), 1) := by decide +kernel
theorem dX11_book_52 : decode cX11_book 52 = .ok (.ireturn, 1) := by decide +kernel
theorem dX11_book_53 : decode cX11_book 53 = .ok (.aload_n 0, 1) := by decide +kernel
theorem dX11_book_54 : decode cX11_book 54 = .ok (.getfield 34, 3) := by decide +kernel
theorem dX11_book_57 : decode cX11_book 57 = .ok (.getfield 125, 3) := by decide +kernel
theorem dX11_book_60 : decode cX11_book 60 = .ok (.astore_n 2, 1) := by decide +kernel
theorem dX11_book_61 : decode cX11_book 61 = .ok (.aload_n 0, 1) := by decide +kernel
theorem dX11_book_62 : decode cX11_book 62 = .ok (.getfield 34, 3) := by decide +kernel
theorem dX11_book_65 : decode cX11_book 65 = .ok (.aload_n 0, 1) := by decide +kernel
theorem dX11_book_66 : decode cX11_book 66 = .ok (.getfield 16, 3) := by decide +kernel
theorem dX11_book_69 : decode cX11_book 69 = .ok (.invokevirtual 128, 3) := by decide +kernel
theorem dX11_book_72 : decode cX11_book 72 = .ok (.aload_n 0, 1) := by decide +kernel
theorem dX11_book_73 : decode cX11_book 73 = .ok (.aload_n 2, 1) := by decide +kernel
theorem dX11_book_74 : decode cX11_book 74 = .ok (.putfield 16, 3) := by decide +kernel
theorem dX11_book_77 : decode cX11_book 77 = .ok (.aload_n 0, 1) := by decide +kernel
theorem dX11_book_78 : decode cX11_book 78 = .ok (.invokevirtual 131, 3) := by decide +kernel
theorem dX11_book_81 : decode cX11_book 81 = .ok (.aload_n 0, 1) := by decide +kernel
theorem dX11_book_82 : decode cX11_book 82 = .ok (.getfield 34, 3) := by decide +kernel
theorem dX11_book_85 : decode cX11_book 85 = .ok (.getfield 125, 3) := by decide +kernel
theorem dX11_book_88 : decode cX11_book 88 = .ok (.getfield 134, 3) := by decide +kernel
theorem dX11_book_91 : decode cX11_book 91 = .ok (.ireturn, 1) := by decide +kernel
theorem dX11_beginAnew_0 : decode cX11_beginAnew 0 = .ok (.aload_n 0, 1) := by decide +kernel
theorem dX11_beginAnew_1 : decode cX11_beginAnew 1 = .ok (.iconst 0, 1) := by decide +kernel
theorem dX11_beginAnew_2 : decode cX11_beginAnew 2 = .ok (.putfield 137, 3) := by decide +kernel
theorem dX11_beginAnew_5 : decode cX11_beginAnew 5 = .ok (.getstatic 49, 3) := by decide +kernel
theorem dX11_beginAnew_8 : decode cX11_beginAnew 8 = .ok (.iconst 0, 1) := by decide +kernel
theorem dX11_beginAnew_9 : decode cX11_beginAnew 9 = .ok (.aload_n 0, 1) := by decide +kernel
theorem dX11_beginAnew_10 : decode cX11_beginAnew 10 = .ok (.getfield 57, 3) := by decide +kernel
theorem dX11_beginAnew_13 : decode cX11_beginAnew 13 = .ok (.iconst 0, 1) := by decide +kernel
theorem dX11_beginAnew_14 : decode cX11_beginAnew 14 = .ok (.getstatic 49, 3) := by decide +kernel
theorem dX11_beginAnew_17 : decode cX11_beginAnew 17 = .ok (.arraylength, 1) := by decide +kernel
theorem dX11_beginAnew_18 : decode cX11_beginAnew 18 = .ok (.invokestatic 140, 3) := by decide +kernel
theorem dX11_beginAnew_21 : decode cX11_beginAnew 21 = .ok (.aload_n 0, 1) := by decide +kernel
theorem dX11_beginAnew_22 : decode cX11_beginAnew 22 = .ok (.getfield 81, 3) := by decide +kernel
theorem dX11_beginAnew_25 : decode cX11_beginAnew 25 = .ok (.invokevirtual 146, 3) := by decide +kernel
theorem dX11_beginAnew_28 : decode cX11_beginAnew 28 = .ok (.aload_n 0, 1) := by decide +kernel
theorem dX11_beginAnew_29 : decode cX11_beginAnew 29 = .ok (.getfield 88, 3) := by decide +kernel
theorem dX11_beginAnew_32 : decode cX11_beginAnew 32 = .ok (.invokevirtual 149, 3) := by decide +kernel
theorem dX11_beginAnew_35 : decode cX11_beginAnew 35 = .ok (.aload_n 0, 1) := by decide +kernel
theorem dX11_beginAnew_36 : decode cX11_beginAnew 36 = .ok (.getfield 102, 3) := by decide +kernel
theorem dX11_beginAnew_39 : decode cX11_beginAnew 39 = .ok (.invokevirtual 150, 3) := by decide +kernel
theorem dX11_beginAnew_42 : decode cX11_beginAnew 42 = .ok (.return_, 1) := by decide +kernel
theorem dX11_hasBook_0 : decode cX11_hasBook 0 = .ok (.aload_n 0, 1) := by decide +kernel
theorem dX11_hasBook_1 : decode cX11_hasBook 1 = .ok (.getfield 34, 3) := by decide +kernel
theorem dX11_hasBook_4 : decode cX11_hasBook 4 = .ok (.getfield 125, 3) := by decide +kernel
theorem dX11_hasBook_7 : decode cX11_hasBook 7 = .ok (.getfield 134, 3) := by decide +kernel
theorem dX11_hasBook_10 : decode cX11_hasBook 10 = .ok (.ifCond .le 7, 3) := by decide +kernel
theorem dX11_hasBook_13 : decode cX11_hasBook 13 = .ok (.iconst 1, 1) := by decide +kernel
theorem dX11_hasBook_14 : decode cX11_hasBook 14 = .ok (.goto 4, 3) := by decide +kernel
theorem dX11_hasBook_17 : decode cX11_hasBook 17 = .ok (.iconst 0, 1) := by decide +kernel
theorem dX11_hasBook_18 : decode cX11_hasBook 18 = .ok (.ireturn, 1) := by decide +kernel
theorem dX11_table_0 : decode cX11_table 0 = .ok (.aload_n 0, 1) := by decide +kernel
theorem dX11_table_1 : decode cX11_table 1 = .ok (.aload_n 0, 1) := by decide +kernel
theorem dX11_table_2 : decode cX11_table 2 = .ok (.invokevirtual 151, 3) := by decide +kernel
theorem dX11_table_5 : decode cX11_table 5 = .ok (.ifCond .ne 7, 3) := by decide +kernel
theorem dX11_table_8 : decode cX11_table 8 = .ok (.iconst 1, 1) := by decide +kernel
theorem dX11_table_9 : decode cX11_table 9 = .ok (.goto 16, 3) := by decide +kernel
theorem dX11_table_12 : decode cX11_table 12 = .ok (.aload_n 0, 1) := by decide +kernel
theorem dX11_table_13 : decode cX11_table 13 = .ok (.iload_n 1, 1) := by decide +kernel
theorem dX11_table_14 : decode cX11_table 14 = .ok (.invokevirtual 114, 3) := by decide +kernel
theorem dX11_table_17 : decode cX11_table 17 = .ok (.ifCond .eq 7, 3) := by decide +kernel
theorem dX11_table_20 : decode cX11_table 20 = .ok (.iconst 0, 1) := by decide +kernel
theorem dX11_table_21 : decode cX11_table 21 = .ok (.goto 4, 3) := by decide +kernel
theorem dX11_table_24 : decode cX11_table 24 = .ok (.iconst 2, 1) := by decide +kernel
theorem dX11_table_25 : decode cX11_table 25 = .ok (.putfield 118, 3) := by decide +kernel
theorem dX11_table_28 : decode cX11_table 28 = .ok (.aload_n 0, 1) := by decide +kernel
theorem dX11_table_29 : decode cX11_table 29 = .ok (.getfield 118, 3) := by decide +kernel
theorem dX11_table_32 : decode cX11_table 32 = .ok (.ifCond .ne 22, 3) := by decide +kernel
theorem dX11_table_35 : decode cX11_table 35 = .ok (.aload_n 0, 1) := by decide +kernel
theorem dX11_table_36 : decode cX11_table 36 = .ok (.getfield 137, 3) := by decide +kernel
theorem dX11_table_39 : decode cX11_table 39 = .ok (.ifCond .lt 15, 3) := by decide +kernel
theorem dX11_table_42 : decode cX11_table 42 = .ok (.aload_n 0, 1) := by decide +kernel
theorem dX11_table_43 : decode cX11_table 43 = .ok (.getfield 137, 3) := by decide +kernel
theorem dX11_table_46 : decode cX11_table 46 = .ok (.aload_n 0, 1) := by decide +kernel
theorem dX11_table_47 : decode cX11_table 47 = .ok (.getfield 40, 3) := by decide +kernel
theorem dX11_table_50 : decode cX11_table 50 = .ok (.arraylength, 1) := by decide +kernel
theorem dX11_table_51 : decode cX11_table 51 = .ok (.if_icmp .lt 5, 3) := by decide +kernel
theorem dX11_table_54 : decode cX11_table 54 = .ok (.iconst (-1), 1) := by decide +kernel
theorem dX11_table_55 : decode cX11_table 55 = .ok (.ireturn, 1) := by decide +kernel
theorem dX11_table_56 : decode cX11_table 56 = .ok (.aload_n 0, 1) := by decide +kernel
theorem dX11_table_57 : decode cX11_table 57 = .ok (.iconst 0, 1) := by decide +kernel
theorem dX11_table_58 : decode cX11_table 58 = .ok (.putfield 106, 3) := by decide +kernel
theorem dX11_table_61 : decode cX11_table 61 = .ok (.aload_n 0, 1) := by decide +kernel
theorem dX11_table_62 : decode cX11_table 62 = .ok (.getfield 25, 3) := by decide +kernel
theorem dX11_table_65 : decode cX11_table 65 = .ok (.iload_n 1, 1) := by decide +kernel
theorem dX11_table_66 : decode cX11_table 66 = .ok (.aload_n 0, 1) := by decide +kernel
theorem dX11_table_67 : decode cX11_table 67 = .ok (.getfield 40, 3) := by decide +kernel
theorem dX11_table_70 : decode cX11_table 70 = .ok (.aload_n 0, 1) := by decide +kernel
theorem dX11_table_71 : decode cX11_table 71 = .ok (.getfield 137, 3) := by decide +kernel
theorem dX11_table_74 : decode cX11_table 74 = .ok (.aaload, 1) := by decide +kernel
theorem dX11_table_75 : decode cX11_table 75 = .ok (.aload_n 0, 1) := by decide +kernel
theorem dX11_table_76 : decode cX11_table 76 = .ok (.getfield 34, 3) := by decide +kernel
theorem dX11_table_79 : decode cX11_table 79 = .ok (.getfield 125, 3) := by decide +kernel
theorem dX11_table_82 : decode cX11_table 82 = .ok (.invokevirtual 155, 3) := by decide +kernel
theorem dX11_table_85 : decode cX11_table 85 = .ok (.ifCond .ne 10, 3) := by decide +kernel
theorem dX11_table_88 : decode cX11_table 88 = .ok (.aload_n 0, 1) := by decide +kernel
theorem dX11_table_89 : decode cX11_table 89 = .ok (.iconst 4, 1) := by decide +kernel
theorem dX11_table_90 : decode cX11_table 90 = .ok (.putfield 118, 3) := by decide +kernel
theorem dX11_table_93 : decode cX11_table 93 = .ok (.iconst (-1), 1) := by decide +kernel
theorem dX11_table_94 : decode cX11_table 94 = .ok (.ireturn, 1) := by decide +kernel
theorem dX11_table_95 : decode cX11_table 95 = .ok (.aload_n 0, 1) := by decide +kernel
theorem dX11_table_96 : decode cX11_table 96 = .ok (.getfield 137, 3) := by decide +kernel
theorem dX11_table_99 : decode cX11_table 99 = .ok (.bipush 8, 2) := by decide +kernel
theorem dX11_table_101 : decode cX11_table 101 = .ok (.if_icmp .lt 10, 3) := by decide +kernel
theorem dX11_table_104 : decode cX11_table 104 = .ok (.aload_n 0, 1) := by decide +kernel
theorem dX11_table_105 : decode cX11_table 105 = .ok (.iconst 3, 1) := by decide +kernel
theorem dX11_table_106 : decode cX11_table 106 = .ok (.putfield 118, 3) := by decide +kernel
theorem dX11_table_109 : decode cX11_table 109 = .ok (.iconst (-1), 1) := by decide +kernel
theorem dX11_table_110 : decode cX11_table 110 = .ok (.ireturn, 1) := by decide +kernel
theorem dX11_table_111 : decode cX11_table 111 = .ok (.aload_n 0, 1) := by decide +kernel
theorem dX11_table_112 : decode cX11_table 112 = .ok (.dup, 1) := by decide +kernel
theorem dX11_table_113 : decode cX11_table 113 = .ok (.getfield 137, 3) := by decide +kernel
theorem dX11_table_116 : decode cX11_table 116 = .ok (.iconst 1, 1) := by decide +kernel
theorem dX11_table_117 : decode cX11_table 117 = .ok (.iadd, 1) := by decide +kernel
theorem dX11_table_118 : decode cX11_table 118 = .ok (.putfield 137, 3) := by decide +kernel
theorem dX11_table_121 : decode cX11_table 121 = .ok (.aload_n 0, 1) := by decide +kernel
theorem dX11_table_122 : decode cX11_table 122 = .ok (.getfield 137, 3) := by decide +kernel
theorem dX11_table_125 : decode cX11_table 125 = .ok (.iconst 1, 1) := by decide +kernel
theorem dX11_table_126 : decode cX11_table 126 = .ok (.isub, 1) := by decide +kernel
theorem dX11_table_127 : decode cX11_table 127 = .ok (.ireturn, 1) := by decide +kernel
theorem dX11_fault_0 : decode cX11_fault 0 = .ok (.aload_n 0, 1) := by decide +kernel
theorem dX11_fault_1 : decode cX11_fault 1 = .ok (.getfield 25, 3) := by decide +kernel
theorem dX11_fault_4 : decode cX11_fault 4 = .ok (.getfield 159, 3) := by decide +kernel
theorem dX11_fault_7 : decode cX11_fault 7 = .ok (.ireturn, 1) := by decide +kernel
theorem dX11_where_0 : decode cX11_where 0 = .ok (.aload_n 0, 1) := by decide +kernel
theorem dX11_where_1 : decode cX11_where 1 = .ok (.getfield 118, 3) := by decide +kernel
theorem dX11_where_4 : decode cX11_where 4 = .ok (.iconst 4, 1) := by decide +kernel
theorem dX11_where_5 : decode cX11_where 5 = .ok (.if_icmp .ne 13, 3) := by decide +kernel
theorem dX11_where_8 : decode cX11_where 8 = .ok (.aload_n 0, 1) := by decide +kernel
theorem dX11_where_9 : decode cX11_where 9 = .ok (.getfield 25, 3) := by decide +kernel
theorem dX11_where_12 : decode cX11_where 12 = .ok (.getfield 162, 3) := by decide +kernel
theorem dX11_where_15 : decode cX11_where 15 = .ok (.goto 4, 3) := by decide +kernel
theorem dX11_where_18 : decode cX11_where 18 = .ok (.iconst (-1), 1) := by decide +kernel
theorem dX11_where_19 : decode cX11_where 19 = .ok (.ireturn, 1) := by decide +kernel
theorem dX11_field_0 : decode cX11_field 0 = .ok (.aload_n 0, 1) := by decide +kernel
theorem dX11_field_1 : decode cX11_field 1 = .ok (.getfield 34, 3) := by decide +kernel
theorem dX11_field_4 : decode cX11_field 4 = .ok (.getfield 125, 3) := by decide +kernel
theorem dX11_field_7 : decode cX11_field 7 = .ok (.iload_n 1, 1) := by decide +kernel
theorem dX11_field_8 : decode cX11_field 8 = .ok (.invokevirtual 165, 3) := by decide +kernel
theorem dX11_field_11 : decode cX11_field 11 = .ok (.ifCond .ne 5, 3) := by decide +kernel
theorem dX11_field_14 : decode cX11_field 14 = .ok (.iconst (-1), 1) := by decide +kernel
theorem dX11_field_15 : decode cX11_field 15 = .ok (.ireturn, 1) := by decide +kernel
theorem dX11_field_16 : decode cX11_field 16 = .ok (.iload_n 2, 1) := by decide +kernel
theorem dX11_field_17 : decode cX11_field 17 = .ok (.ifCond .ne 18, 3) := by decide +kernel
theorem dX11_field_20 : decode cX11_field 20 = .ok (.aload_n 0, 1) := by decide +kernel
theorem dX11_field_21 : decode cX11_field 21 = .ok (.getfield 34, 3) := by decide +kernel
theorem dX11_field_24 : decode cX11_field 24 = .ok (.getfield 125, 3) := by decide +kernel
theorem dX11_field_27 : decode cX11_field 27 = .ok (.getfield 168, 3) := by decide +kernel
theorem dX11_field_30 : decode cX11_field 30 = .ok (.iload_n 1, 1) := by decide +kernel
theorem dX11_field_31 : decode cX11_field 31 = .ok (.iaload, 1) := by decide +kernel
theorem dX11_field_32 : decode cX11_field 32 = .ok (.goto 24, 3) := by decide +kernel
theorem dX11_field_35 : decode cX11_field 35 = .ok (.iload_n 2, 1) := by decide +kernel
theorem dX11_field_36 : decode cX11_field 36 = .ok (.iconst 1, 1) := by decide +kernel
theorem dX11_field_37 : decode cX11_field 37 = .ok (.if_icmp .ne 18, 3) := by decide +kernel
theorem dX11_field_40 : decode cX11_field 40 = .ok (.aload_n 0, 1) := by decide +kernel
theorem dX11_field_41 : decode cX11_field 41 = .ok (.getfield 34, 3) := by decide +kernel
theorem dX11_field_44 : decode cX11_field 44 = .ok (.getfield 125, 3) := by decide +kernel
theorem dX11_field_47 : decode cX11_field 47 = .ok (.getfield 171, 3) := by decide +kernel
theorem dX11_field_50 : decode cX11_field 50 = .ok (.iload_n 1, 1) := by decide +kernel
theorem dX11_field_51 : decode cX11_field 51 = .ok (.iaload, 1) := by decide +kernel
theorem dX11_field_52 : decode cX11_field 52 = .ok (.goto 4, 3) := by decide +kernel
theorem dX11_field_55 : decode cX11_field 55 = .ok (.iconst (-1), 1) := by decide +kernel
theorem dX11_field_56 : decode cX11_field 56 = .ok (.ireturn, 1) := by decide +kernel
theorem dX11_row_0 : decode cX11_row 0 = .ok (.aload_n 0, 1) := by decide +kernel
theorem dX11_row_1 : decode cX11_row 1 = .ok (.getfield 45, 3) := by decide +kernel
theorem dX11_row_4 : decode cX11_row 4 = .ok (.iconst 0, 1) := by decide +kernel
theorem dX11_row_5 : decode cX11_row 5 = .ok (.iload_n 1, 1) := by decide +kernel
theorem dX11_row_6 : decode cX11_row 6 = .ok (.iastore, 1) := by decide +kernel
theorem dX11_row_7 : decode cX11_row 7 = .ok (.aload_n 0, 1) := by decide +kernel
theorem dX11_row_8 : decode cX11_row 8 = .ok (.getfield 45, 3) := by decide +kernel
theorem dX11_row_11 : decode cX11_row 11 = .ok (.iconst 1, 1) := by decide +kernel
theorem dX11_row_12 : decode cX11_row 12 = .ok (.iload_n 2, 1) := by decide +kernel
theorem dX11_row_13 : decode cX11_row 13 = .ok (.iastore, 1) := by decide +kernel
theorem dX11_row_14 : decode cX11_row 14 = .ok (.aload_n 0, 1) := by decide +kernel
theorem dX11_row_15 : decode cX11_row 15 = .ok (.getfield 45, 3) := by decide +kernel
theorem dX11_row_18 : decode cX11_row 18 = .ok (.iconst 2, 1) := by decide +kernel
theorem dX11_row_19 : decode cX11_row 19 = .ok (.iload_n 3, 1) := by decide +kernel
theorem dX11_row_20 : decode cX11_row 20 = .ok (.iastore, 1) := by decide +kernel
theorem dX11_row_21 : decode cX11_row 21 = .ok (.aload_n 0, 1) := by decide +kernel
theorem dX11_row_22 : decode cX11_row 22 = .ok (.getfield 45, 3) := by decide +kernel
theorem dX11_row_25 : decode cX11_row 25 = .ok (.iconst 3, 1) := by decide +kernel
theorem dX11_row_26 : decode cX11_row 26 = .ok (.iload 4, 2) := by decide +kernel
theorem dX11_row_28 : decode cX11_row 28 = .ok (.iastore, 1) := by decide +kernel
theorem dX11_row_29 : decode cX11_row 29 = .ok (.aload_n 0, 1) := by decide +kernel
theorem dX11_row_30 : decode cX11_row 30 = .ok (.getfield 45, 3) := by decide +kernel
theorem dX11_row_33 : decode cX11_row 33 = .ok (.iconst 4, 1) := by decide +kernel
theorem dX11_row_34 : decode cX11_row 34 = .ok (.iload 5, 2) := by decide +kernel
theorem dX11_row_36 : decode cX11_row 36 = .ok (.iastore, 1) := by decide +kernel
theorem dX11_row_37 : decode cX11_row 37 = .ok (.aload_n 0, 1) := by decide +kernel
theorem dX11_row_38 : decode cX11_row 38 = .ok (.getfield 45, 3) := by decide +kernel
theorem dX11_row_41 : decode cX11_row 41 = .ok (.iconst 5, 1) := by decide +kernel
theorem dX11_row_42 : decode cX11_row 42 = .ok (.iload 6, 2) := by decide +kernel
theorem dX11_row_44 : decode cX11_row 44 = .ok (.iastore, 1) := by decide +kernel
theorem dX11_row_45 : decode cX11_row 45 = .ok (.aload_n 0, 1) := by decide +kernel
theorem dX11_row_46 : decode cX11_row 46 = .ok (.aload_n 0, 1) := by decide +kernel
theorem dX11_row_47 : decode cX11_row 47 = .ok (.invokevirtual 151, 3) := by decide +kernel
theorem dX11_row_50 : decode cX11_row 50 = .ok (.ifCond .ne 7, 3) := by decide +kernel
theorem dX11_row_53 : decode cX11_row 53 = .ok (.iconst 1, 1) := by decide +kernel
theorem dX11_row_54 : decode cX11_row 54 = .ok (.goto 39, 3) := by decide +kernel
theorem dX11_row_57 : decode cX11_row 57 = .ok (.aload_n 0, 1) := by decide +kernel
theorem dX11_row_58 : decode cX11_row 58 = .ok (.getfield 34, 3) := by decide +kernel
theorem dX11_row_61 : decode cX11_row 61 = .ok (.getfield 125, 3) := by decide +kernel
theorem dX11_row_64 : decode cX11_row 64 = .ok (.aload_n 0, 1) := by decide +kernel
theorem dX11_row_65 : decode cX11_row 65 = .ok (.getfield 45, 3) := by decide +kernel
theorem dX11_row_68 : decode cX11_row 68 = .ok (.invokevirtual 174, 3) := by decide +kernel
theorem dX11_row_71 : decode cX11_row 71 = .ok (.ifCond .ne 7, 3) := by decide +kernel
theorem dX11_row_74 : decode cX11_row 74 = .ok (.iconst 2, 1) := by decide +kernel
theorem dX11_row_75 : decode cX11_row 75 = .ok (.goto 18, 3) := by decide +kernel
theorem dX11_row_78 : decode cX11_row 78 = .ok (.aload_n 0, 1) := by decide +kernel
theorem dX11_row_79 : decode cX11_row 79 = .ok (.getfield 34, 3) := by decide +kernel
theorem dX11_row_82 : decode cX11_row 82 = .ok (.invokevirtual 178, 3) := by decide +kernel
theorem dX11_row_85 : decode cX11_row 85 = .ok (.ifCond .eq 7, 3) := by decide +kernel
theorem dX11_row_88 : decode cX11_row 88 = .ok (.iconst 3, 1) := by decide +kernel
theorem dX11_row_89 : decode cX11_row 89 = .ok (.goto 4, 3) := by decide +kernel
theorem dX11_row_92 : decode cX11_row 92 = .ok (.iconst 0, 1) := by decide +kernel
theorem dX11_row_93 : decode cX11_row 93 = .ok (.putfield 118, 3) := by decide +kernel
theorem dX11_row_96 : decode cX11_row 96 = .ok (.aload_n 0, 1) := by decide +kernel
theorem dX11_row_97 : decode cX11_row 97 = .ok (.getfield 118, 3) := by decide +kernel
theorem dX11_row_100 : decode cX11_row 100 = .ok (.ifCond .ne 17, 3) := by decide +kernel
theorem dX11_row_103 : decode cX11_row 103 = .ok (.aload_n 0, 1) := by decide +kernel
theorem dX11_row_104 : decode cX11_row 104 = .ok (.getfield 34, 3) := by decide +kernel
theorem dX11_row_107 : decode cX11_row 107 = .ok (.aload_n 0, 1) := by decide +kernel
theorem dX11_row_108 : decode cX11_row 108 = .ok (.getfield 45, 3) := by decide +kernel
theorem dX11_row_111 : decode cX11_row 111 = .ok (.invokevirtual 181, 3) := by decide +kernel
theorem dX11_row_114 : decode cX11_row 114 = .ok (.goto 4, 3) := by decide +kernel
theorem dX11_row_117 : decode cX11_row 117 = .ok (.iconst (-1), 1) := by decide +kernel
theorem dX11_row_118 : decode cX11_row 118 = .ok (.ireturn, 1) := by decide +kernel
theorem dX11_weight_0 : decode cX11_weight 0 = .ok (.aload_n 0, 1) := by decide +kernel
theorem dX11_weight_1 : decode cX11_weight 1 = .ok (.aload_n 0, 1) := by decide +kernel
theorem dX11_weight_2 : decode cX11_weight 2 = .ok (.getfield 34, 3) := by decide +kernel
theorem dX11_weight_5 : decode cX11_weight 5 = .ok (.iload_n 1, 1) := by decide +kernel
theorem dX11_weight_6 : decode cX11_weight 6 = .ok (.invokevirtual 185, 3) := by decide +kernel
theorem dX11_weight_9 : decode cX11_weight 9 = .ok (.ifCond .ne 7, 3) := by decide +kernel
theorem dX11_weight_12 : decode cX11_weight 12 = .ok (.iconst 1, 1) := by decide +kernel
theorem dX11_weight_13 : decode cX11_weight 13 = .ok (.goto 18, 3) := by decide +kernel
theorem dX11_weight_16 : decode cX11_weight 16 = .ok (.iload_n 2, 1) := by decide +kernel
theorem dX11_weight_17 : decode cX11_weight 17 = .ok (.iconst 1, 1) := by decide +kernel
theorem dX11_weight_18 : decode cX11_weight 18 = .ok (.bipush 99, 2) := by decide +kernel
theorem dX11_weight_20 : decode cX11_weight 20 = .ok (.invokestatic 188, 3) := by decide +kernel
theorem dX11_weight_23 : decode cX11_weight 23 = .ok (.ifCond .eq 7, 3) := by decide +kernel
theorem dX11_weight_26 : decode cX11_weight 26 = .ok (.iconst 0, 1) := by decide +kernel
theorem dX11_weight_27 : decode cX11_weight 27 = .ok (.goto 4, 3) := by decide +kernel
theorem dX11_weight_30 : decode cX11_weight 30 = .ok (.iconst 2, 1) := by decide +kernel
theorem dX11_weight_31 : decode cX11_weight 31 = .ok (.putfield 118, 3) := by decide +kernel
theorem dX11_weight_34 : decode cX11_weight 34 = .ok (.aload_n 0, 1) := by decide +kernel
theorem dX11_weight_35 : decode cX11_weight 35 = .ok (.getfield 118, 3) := by decide +kernel
theorem dX11_weight_38 : decode cX11_weight 38 = .ok (.ifCond .ne 14, 3) := by decide +kernel
theorem dX11_weight_41 : decode cX11_weight 41 = .ok (.aload_n 0, 1) := by decide +kernel
theorem dX11_weight_42 : decode cX11_weight 42 = .ok (.getfield 34, 3) := by decide +kernel
theorem dX11_weight_45 : decode cX11_weight 45 = .ok (.iload_n 1, 1) := by decide +kernel
theorem dX11_weight_46 : decode cX11_weight 46 = .ok (.invokevirtual 185, 3) := by decide +kernel
theorem dX11_weight_49 : decode cX11_weight 49 = .ok (.ifCond .ne 5, 3) := by decide +kernel
theorem dX11_weight_52 : decode cX11_weight 52 = .ok (.iconst 0, 1) := by decide +kernel
theorem dX11_weight_53 : decode cX11_weight 53 = .ok (.ireturn, 1) := by decide +kernel
theorem dX11_weight_54 : decode cX11_weight 54 = .ok (.aload_n 0, 1) := by decide +kernel
theorem dX11_weight_55 : decode cX11_weight 55 = .ok (.getfield 34, 3) := by decide +kernel
theorem dX11_weight_58 : decode cX11_weight 58 = .ok (.getfield 192, 3) := by decide +kernel
theorem dX11_weight_61 : decode cX11_weight 61 = .ok (.iload_n 1, 1) := by decide +kernel
theorem dX11_weight_62 : decode cX11_weight 62 = .ok (.iload_n 2, 1) := by decide +kernel
theorem dX11_weight_63 : decode cX11_weight 63 = .ok (.iastore, 1) := by decide +kernel
theorem dX11_weight_64 : decode cX11_weight 64 = .ok (.iconst 1, 1) := by decide +kernel
theorem dX11_weight_65 : decode cX11_weight 65 = .ok (.ireturn, 1) := by decide +kernel
theorem dX11_withdraw_0 : decode cX11_withdraw 0 = .ok (.aload_n 0, 1) := by decide +kernel
theorem dX11_withdraw_1 : decode cX11_withdraw 1 = .ok (.aload_n 0, 1) := by decide +kernel
theorem dX11_withdraw_2 : decode cX11_withdraw 2 = .ok (.getfield 34, 3) := by decide +kernel
theorem dX11_withdraw_5 : decode cX11_withdraw 5 = .ok (.iload_n 1, 1) := by decide +kernel
theorem dX11_withdraw_6 : decode cX11_withdraw 6 = .ok (.invokevirtual 185, 3) := by decide +kernel
theorem dX11_withdraw_9 : decode cX11_withdraw 9 = .ok (.ifCond .ne 7, 3) := by decide +kernel
theorem dX11_withdraw_12 : decode cX11_withdraw 12 = .ok (.iconst 1, 1) := by decide +kernel
theorem dX11_withdraw_13 : decode cX11_withdraw 13 = .ok (.goto 19, 3) := by decide +kernel
theorem dX11_withdraw_16 : decode cX11_withdraw 16 = .ok (.aload_n 0, 1) := by decide +kernel
theorem dX11_withdraw_17 : decode cX11_withdraw 17 = .ok (.getfield 34, 3) := by decide +kernel
theorem dX11_withdraw_20 : decode cX11_withdraw 20 = .ok (.iload_n 1, 1) := by decide +kernel
theorem dX11_withdraw_21 : decode cX11_withdraw 21 = .ok (.invokevirtual 195, 3) := by decide +kernel
theorem dX11_withdraw_24 : decode cX11_withdraw 24 = .ok (.ifCond .eq 7, 3) := by decide +kernel
theorem dX11_withdraw_27 : decode cX11_withdraw 27 = .ok (.iconst 5, 1) := by decide +kernel
theorem dX11_withdraw_28 : decode cX11_withdraw 28 = .ok (.goto 4, 3) := by decide +kernel
theorem dX11_withdraw_31 : decode cX11_withdraw 31 = .ok (.iconst 0, 1) := by decide +kernel
theorem dX11_withdraw_32 : decode cX11_withdraw 32 = .ok (.putfield 118, 3) := by decide +kernel
theorem dX11_withdraw_35 : decode cX11_withdraw 35 = .ok (.aload_n 0, 1) := by decide +kernel
theorem dX11_withdraw_36 : decode cX11_withdraw 36 = .ok (.getfield 118, 3) := by decide +kernel
theorem dX11_withdraw_39 : decode cX11_withdraw 39 = .ok (.ifCond .ne 14, 3) := by decide +kernel
theorem dX11_withdraw_42 : decode cX11_withdraw 42 = .ok (.aload_n 0, 1) := by decide +kernel
theorem dX11_withdraw_43 : decode cX11_withdraw 43 = .ok (.getfield 34, 3) := by decide +kernel
theorem dX11_withdraw_46 : decode cX11_withdraw 46 = .ok (.iload_n 1, 1) := by decide +kernel
theorem dX11_withdraw_47 : decode cX11_withdraw 47 = .ok (.invokevirtual 185, 3) := by decide +kernel
theorem dX11_withdraw_50 : decode cX11_withdraw 50 = .ok (.ifCond .ne 5, 3) := by decide +kernel
theorem dX11_withdraw_53 : decode cX11_withdraw 53 = .ok (.iconst 0, 1) := by decide +kernel
theorem dX11_withdraw_54 : decode cX11_withdraw 54 = .ok (.ireturn, 1) := by decide +kernel
theorem dX11_withdraw_55 : decode cX11_withdraw 55 = .ok (.aload_n 0, 1) := by decide +kernel
theorem dX11_withdraw_56 : decode cX11_withdraw 56 = .ok (.getfield 34, 3) := by decide +kernel
theorem dX11_withdraw_59 : decode cX11_withdraw 59 = .ok (.getfield 198, 3) := by decide +kernel
theorem dX11_withdraw_62 : decode cX11_withdraw 62 = .ok (.iload_n 1, 1) := by decide +kernel
theorem dX11_withdraw_63 : decode cX11_withdraw 63 = .ok (.aload_n 0, 1) := by decide +kernel
theorem dX11_withdraw_64 : decode cX11_withdraw 64 = .ok (.getfield 34, 3) := by decide +kernel
theorem dX11_withdraw_67 : decode cX11_withdraw 67 = .ok (.getfield 201, 3) := by decide +kernel
theorem dX11_withdraw_70 : decode cX11_withdraw 70 = .ok (.iastore, 1) := by decide +kernel
theorem dX11_withdraw_71 : decode cX11_withdraw 71 = .ok (.iconst 1, 1) := by decide +kernel
theorem dX11_withdraw_72 : decode cX11_withdraw 72 = .ok (.ireturn, 1) := by decide +kernel
theorem dX11_value_0 : decode cX11_value 0 = .ok (.aload_n 0, 1) := by decide +kernel
theorem dX11_value_1 : decode cX11_value 1 = .ok (.getfield 34, 3) := by decide +kernel
theorem dX11_value_4 : decode cX11_value 4 = .ok (.iload_n 3, 1) := by decide +kernel
theorem dX11_value_5 : decode cX11_value 5 = .ok (.invokevirtual 204, 3) := by decide +kernel
theorem dX11_value_8 : decode cX11_value 8 = .ok (.ifCond .eq 18, 3) := by decide +kernel
theorem dX11_value_11 : decode cX11_value 11 = .ok (.aload_n 0, 1) := by decide +kernel
theorem dX11_value_12 : decode cX11_value 12 = .ok (.getfield 34, 3) := by decide +kernel
theorem dX11_value_15 : decode cX11_value 15 = .ok (.iload_n 1, 1) := by decide +kernel
theorem dX11_value_16 : decode cX11_value 16 = .ok (.iload_n 2, 1) := by decide +kernel
theorem dX11_value_17 : decode cX11_value 17 = .ok (.iload_n 3, 1) := by decide +kernel
theorem dX11_value_18 : decode cX11_value 18 = .ok (.iload 4, 2) := by decide +kernel
theorem dX11_value_20 : decode cX11_value 20 = .ok (.invokevirtual 207, 3) := by decide +kernel
theorem dX11_value_23 : decode cX11_value 23 = .ok (.goto 5, 3) := by decide +kernel
theorem dX11_value_26 : decode cX11_value 26 = .ok (.bipush (-2), 2) := by decide +kernel
theorem dX11_value_28 : decode cX11_value 28 = .ok (.ireturn, 1) := by decide +kernel
theorem dX11_of_0 : decode cX11_of 0 = .ok (.aload_n 0, 1) := by decide +kernel
theorem dX11_of_1 : decode cX11_of 1 = .ok (.getfield 34, 3) := by decide +kernel
theorem dX11_of_4 : decode cX11_of 4 = .ok (.iload_n 1, 1) := by decide +kernel
theorem dX11_of_5 : decode cX11_of 5 = .ok (.invokevirtual 185, 3) := by decide +kernel
theorem dX11_of_8 : decode cX11_of 8 = .ok (.ifCond .ne 5, 3) := by decide +kernel
theorem dX11_of_11 : decode cX11_of 11 = .ok (.iconst (-1), 1) := by decide +kernel
theorem dX11_of_12 : decode cX11_of 12 = .ok (.ireturn, 1) := by decide +kernel
theorem dX11_of_13 : decode cX11_of 13 = .ok (.iload_n 2, 1) := by decide +kernel
theorem dX11_of_14 : decode cX11_of 14 = .ok (.tableswitch 133 0 6 #[42, 66, 85, 94, 104, 114, 124], 42) := by decide +kernel
theorem dX11_of_56 : decode cX11_of 56 = .ok (.aload_n 0, 1) := by decide +kernel
theorem dX11_of_57 : decode cX11_of 57 = .ok (.getfield 34, 3) := by decide +kernel
theorem dX11_of_60 : decode cX11_of 60 = .ok (.iload_n 1, 1) := by decide +kernel
theorem dX11_of_61 : decode cX11_of 61 = .ok (.aload_n 0, 1) := by decide +kernel
theorem dX11_of_62 : decode cX11_of 62 = .ok (.getfield 34, 3) := by decide +kernel
theorem dX11_of_65 : decode cX11_of 65 = .ok (.getfield 201, 3) := by decide +kernel
theorem dX11_of_68 : decode cX11_of 68 = .ok (.invokevirtual 211, 3) := by decide +kernel
theorem dX11_of_71 : decode cX11_of 71 = .ok (.ifCond .eq 7, 3) := by decide +kernel
theorem dX11_of_74 : decode cX11_of 74 = .ok (.iconst 1, 1) := by decide +kernel
theorem dX11_of_75 : decode cX11_of 75 = .ok (.goto 4, 3) := by decide +kernel
theorem dX11_of_78 : decode cX11_of 78 = .ok (.iconst 0, 1) := by decide +kernel
theorem dX11_of_79 : decode cX11_of 79 = .ok (.ireturn, 1) := by decide +kernel
theorem dX11_of_80 : decode cX11_of 80 = .ok (.aload_n 0, 1) := by decide +kernel
theorem dX11_of_81 : decode cX11_of 81 = .ok (.getfield 34, 3) := by decide +kernel
theorem dX11_of_84 : decode cX11_of 84 = .ok (.iload_n 1, 1) := by decide +kernel
theorem dX11_of_85 : decode cX11_of 85 = .ok (.invokevirtual 215, 3) := by decide +kernel
theorem dX11_of_88 : decode cX11_of 88 = .ok (.bipush (-2), 2) := by decide +kernel
theorem dX11_of_90 : decode cX11_of 90 = .ok (.if_icmp .ne 7, 3) := by decide +kernel
theorem dX11_of_93 : decode cX11_of 93 = .ok (.iconst 0, 1) := by decide +kernel
theorem dX11_of_94 : decode cX11_of 94 = .ok (.goto 4, 3) := by decide +kernel
theorem dX11_of_97 : decode cX11_of 97 = .ok (.iconst 1, 1) := by decide +kernel
theorem dX11_of_98 : decode cX11_of 98 = .ok (.ireturn, 1) := by decide +kernel
theorem dX11_of_99 : decode cX11_of 99 = .ok (.aload_n 0, 1) := by decide +kernel
theorem dX11_of_100 : decode cX11_of 100 = .ok (.getfield 34, 3) := by decide +kernel
theorem dX11_of_103 : decode cX11_of 103 = .ok (.iload_n 1, 1) := by decide +kernel
theorem dX11_of_104 : decode cX11_of 104 = .ok (.invokevirtual 219, 3) := by decide +kernel
theorem dX11_of_107 : decode cX11_of 107 = .ok (.ireturn, 1) := by decide +kernel
theorem dX11_of_108 : decode cX11_of 108 = .ok (.aload_n 0, 1) := by decide +kernel
theorem dX11_of_109 : decode cX11_of 109 = .ok (.getfield 34, 3) := by decide +kernel
theorem dX11_of_112 : decode cX11_of 112 = .ok (.getfield 222, 3) := by decide +kernel
theorem dX11_of_115 : decode cX11_of 115 = .ok (.iload_n 1, 1) := by decide +kernel
theorem dX11_of_116 : decode cX11_of 116 = .ok (.iaload, 1) := by decide +kernel
theorem dX11_of_117 : decode cX11_of 117 = .ok (.ireturn, 1) := by decide +kernel
theorem dX11_of_118 : decode cX11_of 118 = .ok (.aload_n 0, 1) := by decide +kernel
theorem dX11_of_119 : decode cX11_of 119 = .ok (.getfield 34, 3) := by decide +kernel
theorem dX11_of_122 : decode cX11_of 122 = .ok (.getfield 225, 3) := by decide +kernel
theorem dX11_of_125 : decode cX11_of 125 = .ok (.iload_n 1, 1) := by decide +kernel
theorem dX11_of_126 : decode cX11_of 126 = .ok (.iaload, 1) := by decide +kernel
theorem dX11_of_127 : decode cX11_of 127 = .ok (.ireturn, 1) := by decide +kernel
theorem dX11_of_128 : decode cX11_of 128 = .ok (.aload_n 0, 1) := by decide +kernel
theorem dX11_of_129 : decode cX11_of 129 = .ok (.getfield 34, 3) := by decide +kernel
theorem dX11_of_132 : decode cX11_of 132 = .ok (.getfield 192, 3) := by decide +kernel
theorem dX11_of_135 : decode cX11_of 135 = .ok (.iload_n 1, 1) := by decide +kernel
theorem dX11_of_136 : decode cX11_of 136 = .ok (.iaload, 1) := by decide +kernel
theorem dX11_of_137 : decode cX11_of 137 = .ok (.ireturn, 1) := by decide +kernel
theorem dX11_of_138 : decode cX11_of 138 = .ok (.aload_n 0, 1) := by decide +kernel
theorem dX11_of_139 : decode cX11_of 139 = .ok (.getfield 34, 3) := by decide +kernel
theorem dX11_of_142 : decode cX11_of 142 = .ok (.iload_n 1, 1) := by decide +kernel
theorem dX11_of_143 : decode cX11_of 143 = .ok (.invokevirtual 215, 3) := by decide +kernel
theorem dX11_of_146 : decode cX11_of 146 = .ok (.ireturn, 1) := by decide +kernel
theorem dX11_of_147 : decode cX11_of 147 = .ok (.iconst (-1), 1) := by decide +kernel
theorem dX11_of_148 : decode cX11_of 148 = .ok (.ireturn, 1) := by decide +kernel
theorem dX11_mend_0 : decode cX11_mend 0 = .ok (.aload_n 0, 1) := by decide +kernel
theorem dX11_mend_1 : decode cX11_mend 1 = .ok (.aload_n 0, 1) := by decide +kernel
theorem dX11_mend_2 : decode cX11_mend 2 = .ok (.getfield 34, 3) := by decide +kernel
theorem dX11_mend_5 : decode cX11_mend 5 = .ok (.iload_n 1, 1) := by decide +kernel
theorem dX11_mend_6 : decode cX11_mend 6 = .ok (.invokevirtual 185, 3) := by decide +kernel
theorem dX11_mend_9 : decode cX11_mend 9 = .ok (.ifCond .ne 7, 3) := by decide +kernel
theorem dX11_mend_12 : decode cX11_mend 12 = .ok (.iconst 1, 1) := by decide +kernel
theorem dX11_mend_13 : decode cX11_mend 13 = .ok (.goto 19, 3) := by decide +kernel
theorem dX11_mend_16 : decode cX11_mend 16 = .ok (.aload_n 0, 1) := by decide +kernel
theorem dX11_mend_17 : decode cX11_mend 17 = .ok (.getfield 34, 3) := by decide +kernel
theorem dX11_mend_20 : decode cX11_mend 20 = .ok (.iload_n 1, 1) := by decide +kernel
theorem dX11_mend_21 : decode cX11_mend 21 = .ok (.invokevirtual 228, 3) := by decide +kernel
theorem dX11_mend_24 : decode cX11_mend 24 = .ok (.ifCond .eq 7, 3) := by decide +kernel
theorem dX11_mend_27 : decode cX11_mend 27 = .ok (.iconst 0, 1) := by decide +kernel
theorem dX11_mend_28 : decode cX11_mend 28 = .ok (.goto 4, 3) := by decide +kernel
theorem dX11_mend_31 : decode cX11_mend 31 = .ok (.iconst 5, 1) := by decide +kernel
theorem dX11_mend_32 : decode cX11_mend 32 = .ok (.putfield 118, 3) := by decide +kernel
theorem dX11_mend_35 : decode cX11_mend 35 = .ok (.aload_n 0, 1) := by decide +kernel
theorem dX11_mend_36 : decode cX11_mend 36 = .ok (.getfield 118, 3) := by decide +kernel
theorem dX11_mend_39 : decode cX11_mend 39 = .ok (.ifCond .eq 5, 3) := by decide +kernel
theorem dX11_mend_42 : decode cX11_mend 42 = .ok (.iconst (-1), 1) := by decide +kernel
theorem dX11_mend_43 : decode cX11_mend 43 = .ok (.ireturn, 1) := by decide +kernel
theorem dX11_mend_44 : decode cX11_mend 44 = .ok (.aload_n 0, 1) := by decide +kernel
theorem dX11_mend_45 : decode cX11_mend 45 = .ok (.getfield 65, 3) := by decide +kernel
theorem dX11_mend_48 : decode cX11_mend 48 = .ok (.iload_n 1, 1) := by decide +kernel
theorem dX11_mend_49 : decode cX11_mend 49 = .ok (.invokevirtual 231, 3) := by decide +kernel
theorem dX11_mend_52 : decode cX11_mend 52 = .ok (.istore_n 2, 1) := by decide +kernel
theorem dX11_mend_53 : decode cX11_mend 53 = .ok (.iload_n 2, 1) := by decide +kernel
theorem dX11_mend_54 : decode cX11_mend 54 = .ok (.ifCond .ne 11, 3) := by decide +kernel
theorem dX11_mend_57 : decode cX11_mend 57 = .ok (.aload_n 0, 1) := by decide +kernel
theorem dX11_mend_58 : decode cX11_mend 58 = .ok (.bipush 6, 2) := by decide +kernel
theorem dX11_mend_60 : decode cX11_mend 60 = .ok (.putfield 118, 3) := by decide +kernel
theorem dX11_mend_63 : decode cX11_mend 63 = .ok (.iconst (-1), 1) := by decide +kernel
theorem dX11_mend_64 : decode cX11_mend 64 = .ok (.ireturn, 1) := by decide +kernel
theorem dX11_mend_65 : decode cX11_mend 65 = .ok (.iload_n 2, 1) := by decide +kernel
theorem dX11_mend_66 : decode cX11_mend 66 = .ok (.ireturn, 1) := by decide +kernel
theorem dX11_giver_0 : decode cX11_giver 0 = .ok (.aload_n 0, 1) := by decide +kernel
theorem dX11_giver_1 : decode cX11_giver 1 = .ok (.getfield 65, 3) := by decide +kernel
theorem dX11_giver_4 : decode cX11_giver 4 = .ok (.getfield 234, 3) := by decide +kernel
theorem dX11_giver_7 : decode cX11_giver 7 = .ok (.ireturn, 1) := by decide +kernel
theorem dX11_fill_0 : decode cX11_fill 0 = .ok (.aload_n 0, 1) := by decide +kernel
theorem dX11_fill_1 : decode cX11_fill 1 = .ok (.aload_n 0, 1) := by decide +kernel
theorem dX11_fill_2 : decode cX11_fill 2 = .ok (.getfield 34, 3) := by decide +kernel
theorem dX11_fill_5 : decode cX11_fill 5 = .ok (.iload_n 1, 1) := by decide +kernel
theorem dX11_fill_6 : decode cX11_fill 6 = .ok (.invokevirtual 185, 3) := by decide +kernel
theorem dX11_fill_9 : decode cX11_fill 9 = .ok (.ifCond .ne 7, 3) := by decide +kernel
theorem dX11_fill_12 : decode cX11_fill 12 = .ok (.iconst 1, 1) := by decide +kernel
theorem dX11_fill_13 : decode cX11_fill 13 = .ok (.goto 34, 3) := by decide +kernel
theorem dX11_fill_16 : decode cX11_fill 16 = .ok (.iload_n 2, 1) := by decide +kernel
theorem dX11_fill_17 : decode cX11_fill 17 = .ok (.iconst 0, 1) := by decide +kernel
theorem dX11_fill_18 : decode cX11_fill 18 = .ok (.sipush 999, 3) := by decide +kernel
theorem dX11_fill_21 : decode cX11_fill 21 = .ok (.invokestatic 188, 3) := by decide +kernel
theorem dX11_fill_24 : decode cX11_fill 24 = .ok (.ifCond .ne 7, 3) := by decide +kernel
theorem dX11_fill_27 : decode cX11_fill 27 = .ok (.iconst 2, 1) := by decide +kernel
theorem dX11_fill_28 : decode cX11_fill 28 = .ok (.goto 19, 3) := by decide +kernel
theorem dX11_fill_31 : decode cX11_fill 31 = .ok (.aload_n 0, 1) := by decide +kernel
theorem dX11_fill_32 : decode cX11_fill 32 = .ok (.getfield 34, 3) := by decide +kernel
theorem dX11_fill_35 : decode cX11_fill 35 = .ok (.iload_n 1, 1) := by decide +kernel
theorem dX11_fill_36 : decode cX11_fill 36 = .ok (.invokevirtual 237, 3) := by decide +kernel
theorem dX11_fill_39 : decode cX11_fill 39 = .ok (.ifCond .eq 7, 3) := by decide +kernel
theorem dX11_fill_42 : decode cX11_fill 42 = .ok (.iconst 0, 1) := by decide +kernel
theorem dX11_fill_43 : decode cX11_fill 43 = .ok (.goto 4, 3) := by decide +kernel
theorem dX11_fill_46 : decode cX11_fill 46 = .ok (.iconst 5, 1) := by decide +kernel
theorem dX11_fill_47 : decode cX11_fill 47 = .ok (.putfield 118, 3) := by decide +kernel
theorem dX11_fill_50 : decode cX11_fill 50 = .ok (.aload_n 0, 1) := by decide +kernel
theorem dX11_fill_51 : decode cX11_fill 51 = .ok (.getfield 118, 3) := by decide +kernel
theorem dX11_fill_54 : decode cX11_fill 54 = .ok (.ifCond .eq 5, 3) := by decide +kernel
theorem dX11_fill_57 : decode cX11_fill 57 = .ok (.iconst (-1), 1) := by decide +kernel
theorem dX11_fill_58 : decode cX11_fill 58 = .ok (.ireturn, 1) := by decide +kernel
theorem dX11_fill_59 : decode cX11_fill 59 = .ok (.aload_n 0, 1) := by decide +kernel
theorem dX11_fill_60 : decode cX11_fill 60 = .ok (.getfield 65, 3) := by decide +kernel
theorem dX11_fill_63 : decode cX11_fill 63 = .ok (.iload_n 1, 1) := by decide +kernel
theorem dX11_fill_64 : decode cX11_fill 64 = .ok (.iload_n 2, 1) := by decide +kernel
theorem dX11_fill_65 : decode cX11_fill 65 = .ok (.invokevirtual 240, 3) := by decide +kernel
theorem dX11_fill_68 : decode cX11_fill 68 = .ok (.istore_n 3, 1) := by decide +kernel
theorem dX11_fill_69 : decode cX11_fill 69 = .ok (.iload_n 3, 1) := by decide +kernel
theorem dX11_fill_70 : decode cX11_fill 70 = .ok (.ifCond .ne 11, 3) := by decide +kernel
theorem dX11_fill_73 : decode cX11_fill 73 = .ok (.aload_n 0, 1) := by decide +kernel
theorem dX11_fill_74 : decode cX11_fill 74 = .ok (.bipush 6, 2) := by decide +kernel
theorem dX11_fill_76 : decode cX11_fill 76 = .ok (.putfield 118, 3) := by decide +kernel
theorem dX11_fill_79 : decode cX11_fill 79 = .ok (.iconst (-1), 1) := by decide +kernel
theorem dX11_fill_80 : decode cX11_fill 80 = .ok (.ireturn, 1) := by decide +kernel
theorem dX11_fill_81 : decode cX11_fill 81 = .ok (.iload_n 3, 1) := by decide +kernel
theorem dX11_fill_82 : decode cX11_fill 82 = .ok (.ireturn, 1) := by decide +kernel
theorem dX11_pass_0 : decode cX11_pass 0 = .ok (.aload_n 0, 1) := by decide +kernel
theorem dX11_pass_1 : decode cX11_pass 1 = .ok (.aload_n 0, 1) := by decide +kernel
theorem dX11_pass_2 : decode cX11_pass 2 = .ok (.invokevirtual 151, 3) := by decide +kernel
theorem dX11_pass_5 : decode cX11_pass 5 = .ok (.ifCond .ne 7, 3) := by decide +kernel
theorem dX11_pass_8 : decode cX11_pass 8 = .ok (.iconst 1, 1) := by decide +kernel
theorem dX11_pass_9 : decode cX11_pass 9 = .ok (.goto 33, 3) := by decide +kernel
theorem dX11_pass_12 : decode cX11_pass 12 = .ok (.iload_n 1, 1) := by decide +kernel
theorem dX11_pass_13 : decode cX11_pass 13 = .ok (.iconst 1, 1) := by decide +kernel
theorem dX11_pass_14 : decode cX11_pass 14 = .ok (.bipush 100, 2) := by decide +kernel
theorem dX11_pass_16 : decode cX11_pass 16 = .ok (.invokestatic 188, 3) := by decide +kernel
theorem dX11_pass_19 : decode cX11_pass 19 = .ok (.ifCond .eq 22, 3) := by decide +kernel
theorem dX11_pass_22 : decode cX11_pass 22 = .ok (.aload_n 0, 1) := by decide +kernel
theorem dX11_pass_23 : decode cX11_pass 23 = .ok (.getfield 34, 3) := by decide +kernel
theorem dX11_pass_26 : decode cX11_pass 26 = .ok (.getfield 201, 3) := by decide +kernel
theorem dX11_pass_29 : decode cX11_pass 29 = .ok (.iload_n 1, 1) := by decide +kernel
theorem dX11_pass_30 : decode cX11_pass 30 = .ok (.iadd, 1) := by decide +kernel
theorem dX11_pass_31 : decode cX11_pass 31 = .ok (.sipush 999, 3) := by decide +kernel
theorem dX11_pass_34 : decode cX11_pass 34 = .ok (.if_icmp .gt 7, 3) := by decide +kernel
theorem dX11_pass_37 : decode cX11_pass 37 = .ok (.iconst 0, 1) := by decide +kernel
theorem dX11_pass_38 : decode cX11_pass 38 = .ok (.goto 4, 3) := by decide +kernel
theorem dX11_pass_41 : decode cX11_pass 41 = .ok (.iconst 2, 1) := by decide +kernel
theorem dX11_pass_42 : decode cX11_pass 42 = .ok (.putfield 118, 3) := by decide +kernel
theorem dX11_pass_45 : decode cX11_pass 45 = .ok (.aload_n 0, 1) := by decide +kernel
theorem dX11_pass_46 : decode cX11_pass 46 = .ok (.getfield 118, 3) := by decide +kernel
theorem dX11_pass_49 : decode cX11_pass 49 = .ok (.ifCond .eq 5, 3) := by decide +kernel
theorem dX11_pass_52 : decode cX11_pass 52 = .ok (.iconst (-1), 1) := by decide +kernel
theorem dX11_pass_53 : decode cX11_pass 53 = .ok (.ireturn, 1) := by decide +kernel
theorem dX11_pass_54 : decode cX11_pass 54 = .ok (.aload_n 0, 1) := by decide +kernel
theorem dX11_pass_55 : decode cX11_pass 55 = .ok (.getfield 34, 3) := by decide +kernel
theorem dX11_pass_58 : decode cX11_pass 58 = .ok (.dup, 1) := by decide +kernel
theorem dX11_pass_59 : decode cX11_pass 59 = .ok (.getfield 201, 3) := by decide +kernel
theorem dX11_pass_62 : decode cX11_pass 62 = .ok (.iload_n 1, 1) := by decide +kernel
theorem dX11_pass_63 : decode cX11_pass 63 = .ok (.iadd, 1) := by decide +kernel
theorem dX11_pass_64 : decode cX11_pass 64 = .ok (.putfield 201, 3) := by decide +kernel
theorem dX11_pass_67 : decode cX11_pass 67 = .ok (.aload_n 0, 1) := by decide +kernel
theorem dX11_pass_68 : decode cX11_pass 68 = .ok (.getfield 34, 3) := by decide +kernel
theorem dX11_pass_71 : decode cX11_pass 71 = .ok (.getfield 201, 3) := by decide +kernel
theorem dX11_pass_74 : decode cX11_pass 74 = .ok (.ireturn, 1) := by decide +kernel
theorem dX11_hasTable_0 : decode cX11_hasTable 0 = .ok (.iload_n 1, 1) := by decide +kernel
theorem dX11_hasTable_1 : decode cX11_hasTable 1 = .ok (.ifCond .lt 24, 3) := by decide +kernel
theorem dX11_hasTable_4 : decode cX11_hasTable 4 = .ok (.iload_n 1, 1) := by decide +kernel
theorem dX11_hasTable_5 : decode cX11_hasTable 5 = .ok (.aload_n 0, 1) := by decide +kernel
theorem dX11_hasTable_6 : decode cX11_hasTable 6 = .ok (.getfield 137, 3) := by decide +kernel
theorem dX11_hasTable_9 : decode cX11_hasTable 9 = .ok (.if_icmp .ge 16, 3) := by decide +kernel
theorem dX11_hasTable_12 : decode cX11_hasTable 12 = .ok (.iload_n 1, 1) := by decide +kernel
theorem dX11_hasTable_13 : decode cX11_hasTable 13 = .ok (.aload_n 0, 1) := by decide +kernel
theorem dX11_hasTable_14 : decode cX11_hasTable 14 = .ok (.getfield 40, 3) := by decide +kernel
theorem dX11_hasTable_17 : decode cX11_hasTable 17 = .ok (.arraylength, 1) := by decide +kernel
theorem dX11_hasTable_18 : decode cX11_hasTable 18 = .ok (.if_icmp .ge 7, 3) := by decide +kernel
theorem dX11_hasTable_21 : decode cX11_hasTable 21 = .ok (.iconst 1, 1) := by decide +kernel
theorem dX11_hasTable_22 : decode cX11_hasTable 22 = .ok (.goto 4, 3) := by decide +kernel
theorem dX11_hasTable_25 : decode cX11_hasTable 25 = .ok (.iconst 0, 1) := by decide +kernel
theorem dX11_hasTable_26 : decode cX11_hasTable 26 = .ok (.ireturn, 1) := by decide +kernel
theorem dX11_hasCell_0 : decode cX11_hasCell 0 = .ok (.aload_n 0, 1) := by decide +kernel
theorem dX11_hasCell_1 : decode cX11_hasCell 1 = .ok (.iload_n 1, 1) := by decide +kernel
theorem dX11_hasCell_2 : decode cX11_hasCell 2 = .ok (.invokevirtual 244, 3) := by decide +kernel
theorem dX11_hasCell_5 : decode cX11_hasCell 5 = .ok (.ifCond .eq 21, 3) := by decide +kernel
theorem dX11_hasCell_8 : decode cX11_hasCell 8 = .ok (.aload_n 0, 1) := by decide +kernel
theorem dX11_hasCell_9 : decode cX11_hasCell 9 = .ok (.getfield 40, 3) := by decide +kernel
theorem dX11_hasCell_12 : decode cX11_hasCell 12 = .ok (.iload_n 1, 1) := by decide +kernel
theorem dX11_hasCell_13 : decode cX11_hasCell 13 = .ok (.aaload, 1) := by decide +kernel
theorem dX11_hasCell_14 : decode cX11_hasCell 14 = .ok (.iload_n 2, 1) := by decide +kernel
theorem dX11_hasCell_15 : decode cX11_hasCell 15 = .ok (.iload_n 3, 1) := by decide +kernel
theorem dX11_hasCell_16 : decode cX11_hasCell 16 = .ok (.invokevirtual 247, 3) := by decide +kernel
theorem dX11_hasCell_19 : decode cX11_hasCell 19 = .ok (.ifCond .eq 7, 3) := by decide +kernel
theorem dX11_hasCell_22 : decode cX11_hasCell 22 = .ok (.iconst 1, 1) := by decide +kernel
theorem dX11_hasCell_23 : decode cX11_hasCell 23 = .ok (.goto 4, 3) := by decide +kernel
theorem dX11_hasCell_26 : decode cX11_hasCell 26 = .ok (.iconst 0, 1) := by decide +kernel
theorem dX11_hasCell_27 : decode cX11_hasCell 27 = .ok (.ireturn, 1) := by decide +kernel
theorem dX11_figure_0 : decode cX11_figure 0 = .ok (.aload_n 0, 1) := by decide +kernel
theorem dX11_figure_1 : decode cX11_figure 1 = .ok (.aload_n 0, 1) := by decide +kernel
theorem dX11_figure_2 : decode cX11_figure 2 = .ok (.iload_n 1, 1) := by decide +kernel
theorem dX11_figure_3 : decode cX11_figure 3 = .ok (.iload_n 2, 1) := by decide +kernel
theorem dX11_figure_4 : decode cX11_figure 4 = .ok (.iload_n 3, 1) := by decide +kernel
theorem dX11_figure_5 : decode cX11_figure 5 = .ok (.invokevirtual 250, 3) := by decide +kernel
theorem dX11_figure_8 : decode cX11_figure 8 = .ok (.ifCond .ne 7, 3) := by decide +kernel
theorem dX11_figure_11 : decode cX11_figure 11 = .ok (.iconst 1, 1) := by decide +kernel
theorem dX11_figure_12 : decode cX11_figure 12 = .ok (.goto 30, 3) := by decide +kernel
theorem dX11_figure_15 : decode cX11_figure 15 = .ok (.aload_n 0, 1) := by decide +kernel
theorem dX11_figure_16 : decode cX11_figure 16 = .ok (.getfield 34, 3) := by decide +kernel
theorem dX11_figure_19 : decode cX11_figure 19 = .ok (.iload 4, 2) := by decide +kernel
theorem dX11_figure_21 : decode cX11_figure 21 = .ok (.invokevirtual 204, 3) := by decide +kernel
theorem dX11_figure_24 : decode cX11_figure 24 = .ok (.ifCond .eq 17, 3) := by decide +kernel
theorem dX11_figure_27 : decode cX11_figure 27 = .ok (.iload 5, 2) := by decide +kernel
theorem dX11_figure_29 : decode cX11_figure 29 = .ok (.iconst 0, 1) := by decide +kernel
theorem dX11_figure_30 : decode cX11_figure 30 = .ok (.iconst 4, 1) := by decide +kernel
theorem dX11_figure_31 : decode cX11_figure 31 = .ok (.invokestatic 188, 3) := by decide +kernel
theorem dX11_figure_34 : decode cX11_figure 34 = .ok (.ifCond .eq 7, 3) := by decide +kernel
theorem dX11_figure_37 : decode cX11_figure 37 = .ok (.iconst 0, 1) := by decide +kernel
theorem dX11_figure_38 : decode cX11_figure 38 = .ok (.goto 4, 3) := by decide +kernel
theorem dX11_figure_41 : decode cX11_figure 41 = .ok (.iconst 2, 1) := by decide +kernel
theorem dX11_figure_42 : decode cX11_figure 42 = .ok (.putfield 118, 3) := by decide +kernel
theorem dX11_figure_45 : decode cX11_figure 45 = .ok (.aload_n 0, 1) := by decide +kernel
theorem dX11_figure_46 : decode cX11_figure 46 = .ok (.getfield 118, 3) := by decide +kernel
theorem dX11_figure_49 : decode cX11_figure 49 = .ok (.ifCond .ne 11, 3) := by decide +kernel
theorem dX11_figure_52 : decode cX11_figure 52 = .ok (.aload_n 0, 1) := by decide +kernel
theorem dX11_figure_53 : decode cX11_figure 53 = .ok (.iload_n 1, 1) := by decide +kernel
theorem dX11_figure_54 : decode cX11_figure 54 = .ok (.invokevirtual 244, 3) := by decide +kernel
theorem dX11_figure_57 : decode cX11_figure 57 = .ok (.ifCond .ne 7, 3) := by decide +kernel
theorem dX11_figure_60 : decode cX11_figure 60 = .ok (.ldc2_w 252, 3) := by decide +kernel
theorem dX11_figure_63 : decode cX11_figure 63 = .ok (.lreturn, 1) := by decide +kernel
theorem dX11_figure_64 : decode cX11_figure 64 = .ok (.aload_n 0, 1) := by decide +kernel
theorem dX11_figure_65 : decode cX11_figure 65 = .ok (.getfield 72, 3) := by decide +kernel
theorem dX11_figure_68 : decode cX11_figure 68 = .ok (.aload_n 0, 1) := by decide +kernel
theorem dX11_figure_69 : decode cX11_figure 69 = .ok (.getfield 40, 3) := by decide +kernel
theorem dX11_figure_72 : decode cX11_figure 72 = .ok (.iload_n 1, 1) := by decide +kernel
theorem dX11_figure_73 : decode cX11_figure 73 = .ok (.aaload, 1) := by decide +kernel
theorem dX11_figure_74 : decode cX11_figure 74 = .ok (.aload_n 0, 1) := by decide +kernel
theorem dX11_figure_75 : decode cX11_figure 75 = .ok (.getfield 40, 3) := by decide +kernel
theorem dX11_figure_78 : decode cX11_figure 78 = .ok (.iload_n 1, 1) := by decide +kernel
theorem dX11_figure_79 : decode cX11_figure 79 = .ok (.aaload, 1) := by decide +kernel
theorem dX11_figure_80 : decode cX11_figure 80 = .ok (.iload_n 2, 1) := by decide +kernel
theorem dX11_figure_81 : decode cX11_figure 81 = .ok (.iload_n 3, 1) := by decide +kernel
theorem dX11_figure_82 : decode cX11_figure 82 = .ok (.invokevirtual 254, 3) := by decide +kernel
theorem dX11_figure_85 : decode cX11_figure 85 = .ok (.iload 4, 2) := by decide +kernel
theorem dX11_figure_87 : decode cX11_figure 87 = .ok (.iload 5, 2) := by decide +kernel
theorem dX11_figure_89 : decode cX11_figure 89 = .ok (.invokevirtual 257, 3) := by decide +kernel
theorem dX11_figure_92 : decode cX11_figure 92 = .ok (.lreturn, 1) := by decide +kernel
theorem dX11_span_0 : decode cX11_span 0 = .ok (.aload_n 0, 1) := by decide +kernel
theorem dX11_span_1 : decode cX11_span 1 = .ok (.aload_n 0, 1) := by decide +kernel
theorem dX11_span_2 : decode cX11_span 2 = .ok (.iload_n 1, 1) := by decide +kernel
theorem dX11_span_3 : decode cX11_span 3 = .ok (.iload_n 2, 1) := by decide +kernel
theorem dX11_span_4 : decode cX11_span 4 = .ok (.iload_n 3, 1) := by decide +kernel
theorem dX11_span_5 : decode cX11_span 5 = .ok (.invokevirtual 250, 3) := by decide +kernel
theorem dX11_span_8 : decode cX11_span 8 = .ok (.ifCond .eq 7, 3) := by decide +kernel
theorem dX11_span_11 : decode cX11_span 11 = .ok (.iconst 0, 1) := by decide +kernel
theorem dX11_span_12 : decode cX11_span 12 = .ok (.goto 4, 3) := by decide +kernel
theorem dX11_span_15 : decode cX11_span 15 = .ok (.iconst 1, 1) := by decide +kernel
theorem dX11_span_16 : decode cX11_span 16 = .ok (.putfield 118, 3) := by decide +kernel
theorem dX11_span_19 : decode cX11_span 19 = .ok (.aload_n 0, 1) := by decide +kernel
theorem dX11_span_20 : decode cX11_span 20 = .ok (.getfield 118, 3) := by decide +kernel
theorem dX11_span_23 : decode cX11_span 23 = .ok (.ifCond .ne 11, 3) := by decide +kernel
theorem dX11_span_26 : decode cX11_span 26 = .ok (.aload_n 0, 1) := by decide +kernel
theorem dX11_span_27 : decode cX11_span 27 = .ok (.iload_n 1, 1) := by decide +kernel
theorem dX11_span_28 : decode cX11_span 28 = .ok (.invokevirtual 244, 3) := by decide +kernel
theorem dX11_span_31 : decode cX11_span 31 = .ok (.ifCond .ne 7, 3) := by decide +kernel
theorem dX11_span_34 : decode cX11_span 34 = .ok (.ldc2_w 252, 3) := by decide +kernel
theorem dX11_span_37 : decode cX11_span 37 = .ok (.lreturn, 1) := by decide +kernel
theorem dX11_span_38 : decode cX11_span 38 = .ok (.aload_n 0, 1) := by decide +kernel
theorem dX11_span_39 : decode cX11_span 39 = .ok (.getfield 40, 3) := by decide +kernel
theorem dX11_span_42 : decode cX11_span 42 = .ok (.iload_n 1, 1) := by decide +kernel
theorem dX11_span_43 : decode cX11_span 43 = .ok (.aaload, 1) := by decide +kernel
theorem dX11_span_44 : decode cX11_span 44 = .ok (.iload_n 2, 1) := by decide +kernel
theorem dX11_span_45 : decode cX11_span 45 = .ok (.iload_n 3, 1) := by decide +kernel
theorem dX11_span_46 : decode cX11_span 46 = .ok (.invokevirtual 254, 3) := by decide +kernel
theorem dX11_span_49 : decode cX11_span 49 = .ok (.istore 5, 2) := by decide +kernel
theorem dX11_span_51 : decode cX11_span 51 = .ok (.aload_n 0, 1) := by decide +kernel
theorem dX11_span_52 : decode cX11_span 52 = .ok (.getfield 72, 3) := by decide +kernel
theorem dX11_span_55 : decode cX11_span 55 = .ok (.aload_n 0, 1) := by decide +kernel
theorem dX11_span_56 : decode cX11_span 56 = .ok (.getfield 40, 3) := by decide +kernel
theorem dX11_span_59 : decode cX11_span 59 = .ok (.iload_n 1, 1) := by decide +kernel
theorem dX11_span_60 : decode cX11_span 60 = .ok (.aaload, 1) := by decide +kernel
theorem dX11_span_61 : decode cX11_span 61 = .ok (.iload 5, 2) := by decide +kernel
theorem dX11_span_63 : decode cX11_span 63 = .ok (.aload_n 0, 1) := by decide +kernel
theorem dX11_span_64 : decode cX11_span 64 = .ok (.getfield 34, 3) := by decide +kernel
theorem dX11_span_67 : decode cX11_span 67 = .ok (.getfield 201, 3) := by decide +kernel
theorem dX11_span_70 : decode cX11_span 70 = .ok (.iconst 0, 1) := by decide +kernel
theorem dX11_span_71 : decode cX11_span 71 = .ok (.invokevirtual 257, 3) := by decide +kernel
theorem dX11_span_74 : decode cX11_span 74 = .ok (.lstore 6, 2) := by decide +kernel
theorem dX11_span_76 : decode cX11_span 76 = .ok (.iconst 1, 1) := by decide +kernel
theorem dX11_span_77 : decode cX11_span 77 = .ok (.istore 8, 2) := by decide +kernel
theorem dX11_span_79 : decode cX11_span 79 = .ok (.iload 8, 2) := by decide +kernel
theorem dX11_span_81 : decode cX11_span 81 = .ok (.iconst 5, 1) := by decide +kernel
theorem dX11_span_82 : decode cX11_span 82 = .ok (.if_icmp .ge 59, 3) := by decide +kernel
theorem dX11_span_85 : decode cX11_span 85 = .ok (.aload_n 0, 1) := by decide +kernel
theorem dX11_span_86 : decode cX11_span 86 = .ok (.getfield 72, 3) := by decide +kernel
theorem dX11_span_89 : decode cX11_span 89 = .ok (.aload_n 0, 1) := by decide +kernel
theorem dX11_span_90 : decode cX11_span 90 = .ok (.getfield 40, 3) := by decide +kernel
theorem dX11_span_93 : decode cX11_span 93 = .ok (.iload_n 1, 1) := by decide +kernel
theorem dX11_span_94 : decode cX11_span 94 = .ok (.aaload, 1) := by decide +kernel
theorem dX11_span_95 : decode cX11_span 95 = .ok (.iload 5, 2) := by decide +kernel
theorem dX11_span_97 : decode cX11_span 97 = .ok (.aload_n 0, 1) := by decide +kernel
theorem dX11_span_98 : decode cX11_span 98 = .ok (.getfield 34, 3) := by decide +kernel
theorem dX11_span_101 : decode cX11_span 101 = .ok (.getfield 201, 3) := by decide +kernel
theorem dX11_span_104 : decode cX11_span 104 = .ok (.iload 8, 2) := by decide +kernel
theorem dX11_span_106 : decode cX11_span 106 = .ok (.invokevirtual 257, 3) := by decide +kernel
theorem dX11_span_109 : decode cX11_span 109 = .ok (.lstore 9, 2) := by decide +kernel
theorem dX11_span_111 : decode cX11_span 111 = .ok (.iload 4, 2) := by decide +kernel
theorem dX11_span_113 : decode cX11_span 113 = .ok (.ifCond .eq 13, 3) := by decide +kernel
theorem dX11_span_116 : decode cX11_span 116 = .ok (.lload 6, 2) := by decide +kernel
theorem dX11_span_118 : decode cX11_span 118 = .ok (.lload 9, 2) := by decide +kernel
theorem dX11_span_120 : decode cX11_span 120 = .ok (.invokestatic 261, 3) := by decide +kernel
theorem dX11_span_123 : decode cX11_span 123 = .ok (.goto 10, 3) := by decide +kernel
theorem dX11_span_126 : decode cX11_span 126 = .ok (.lload 6, 2) := by decide +kernel
theorem dX11_span_128 : decode cX11_span 128 = .ok (.lload 9, 2) := by decide +kernel
theorem dX11_span_130 : decode cX11_span 130 = .ok (.invokestatic 267, 3) := by decide +kernel
theorem dX11_span_133 : decode cX11_span 133 = .ok (.lstore 6, 2) := by decide +kernel
theorem dX11_span_135 : decode cX11_span 135 = .ok (.iinc 8 1, 3) := by decide +kernel
theorem dX11_span_138 : decode cX11_span 138 = .ok (.goto (-59), 3) := by decide +kernel
theorem dX11_span_141 : decode cX11_span 141 = .ok (.lload 6, 2) := by decide +kernel
theorem dX11_span_143 : decode cX11_span 143 = .ok (.lreturn, 1) := by decide +kernel
theorem dX11_far_0 : decode cX11_far 0 = .ok (.aload_n 0, 1) := by decide +kernel
theorem dX11_far_1 : decode cX11_far 1 = .ok (.aload_n 0, 1) := by decide +kernel
theorem dX11_far_2 : decode cX11_far 2 = .ok (.iload_n 1, 1) := by decide +kernel
theorem dX11_far_3 : decode cX11_far 3 = .ok (.iload_n 2, 1) := by decide +kernel
theorem dX11_far_4 : decode cX11_far 4 = .ok (.iload_n 3, 1) := by decide +kernel
theorem dX11_far_5 : decode cX11_far 5 = .ok (.invokevirtual 250, 3) := by decide +kernel
theorem dX11_far_8 : decode cX11_far 8 = .ok (.ifCond .ne 7, 3) := by decide +kernel
theorem dX11_far_11 : decode cX11_far 11 = .ok (.iconst 1, 1) := by decide +kernel
theorem dX11_far_12 : decode cX11_far 12 = .ok (.goto 32, 3) := by decide +kernel
theorem dX11_far_15 : decode cX11_far 15 = .ok (.aload_n 0, 1) := by decide +kernel
theorem dX11_far_16 : decode cX11_far 16 = .ok (.getfield 34, 3) := by decide +kernel
theorem dX11_far_19 : decode cX11_far 19 = .ok (.iload 4, 2) := by decide +kernel
theorem dX11_far_21 : decode cX11_far 21 = .ok (.invokevirtual 204, 3) := by decide +kernel
theorem dX11_far_24 : decode cX11_far 24 = .ok (.ifCond .eq 19, 3) := by decide +kernel
theorem dX11_far_27 : decode cX11_far 27 = .ok (.aload_n 0, 1) := by decide +kernel
theorem dX11_far_28 : decode cX11_far 28 = .ok (.getfield 34, 3) := by decide +kernel
theorem dX11_far_31 : decode cX11_far 31 = .ok (.iload 5, 2) := by decide +kernel
theorem dX11_far_33 : decode cX11_far 33 = .ok (.invokevirtual 204, 3) := by decide +kernel
theorem dX11_far_36 : decode cX11_far 36 = .ok (.ifCond .eq 7, 3) := by decide +kernel
theorem dX11_far_39 : decode cX11_far 39 = .ok (.iconst 0, 1) := by decide +kernel
theorem dX11_far_40 : decode cX11_far 40 = .ok (.goto 4, 3) := by decide +kernel
theorem dX11_far_43 : decode cX11_far 43 = .ok (.iconst 2, 1) := by decide +kernel
theorem dX11_far_44 : decode cX11_far 44 = .ok (.putfield 118, 3) := by decide +kernel
theorem dX11_far_47 : decode cX11_far 47 = .ok (.aload_n 0, 1) := by decide +kernel
theorem dX11_far_48 : decode cX11_far 48 = .ok (.getfield 118, 3) := by decide +kernel
theorem dX11_far_51 : decode cX11_far 51 = .ok (.ifCond .ne 11, 3) := by decide +kernel
theorem dX11_far_54 : decode cX11_far 54 = .ok (.aload_n 0, 1) := by decide +kernel
theorem dX11_far_55 : decode cX11_far 55 = .ok (.iload_n 1, 1) := by decide +kernel
theorem dX11_far_56 : decode cX11_far 56 = .ok (.invokevirtual 244, 3) := by decide +kernel
theorem dX11_far_59 : decode cX11_far 59 = .ok (.ifCond .ne 7, 3) := by decide +kernel
theorem dX11_far_62 : decode cX11_far 62 = .ok (.ldc2_w 252, 3) := by decide +kernel
theorem dX11_far_65 : decode cX11_far 65 = .ok (.lreturn, 1) := by decide +kernel
theorem dX11_far_66 : decode cX11_far 66 = .ok (.aload_n 0, 1) := by decide +kernel
theorem dX11_far_67 : decode cX11_far 67 = .ok (.getfield 40, 3) := by decide +kernel
theorem dX11_far_70 : decode cX11_far 70 = .ok (.iload_n 1, 1) := by decide +kernel
theorem dX11_far_71 : decode cX11_far 71 = .ok (.aaload, 1) := by decide +kernel
theorem dX11_far_72 : decode cX11_far 72 = .ok (.iload_n 2, 1) := by decide +kernel
theorem dX11_far_73 : decode cX11_far 73 = .ok (.iload_n 3, 1) := by decide +kernel
theorem dX11_far_74 : decode cX11_far 74 = .ok (.invokevirtual 254, 3) := by decide +kernel
theorem dX11_far_77 : decode cX11_far 77 = .ok (.istore 6, 2) := by decide +kernel
theorem dX11_far_79 : decode cX11_far 79 = .ok (.aload_n 0, 1) := by decide +kernel
theorem dX11_far_80 : decode cX11_far 80 = .ok (.getfield 72, 3) := by decide +kernel
theorem dX11_far_83 : decode cX11_far 83 = .ok (.aload_n 0, 1) := by decide +kernel
theorem dX11_far_84 : decode cX11_far 84 = .ok (.getfield 40, 3) := by decide +kernel
theorem dX11_far_87 : decode cX11_far 87 = .ok (.iload_n 1, 1) := by decide +kernel
theorem dX11_far_88 : decode cX11_far 88 = .ok (.aaload, 1) := by decide +kernel
theorem dX11_far_89 : decode cX11_far 89 = .ok (.iload 6, 2) := by decide +kernel
theorem dX11_far_91 : decode cX11_far 91 = .ok (.iload 5, 2) := by decide +kernel
theorem dX11_far_93 : decode cX11_far 93 = .ok (.iconst 0, 1) := by decide +kernel
theorem dX11_far_94 : decode cX11_far 94 = .ok (.invokevirtual 257, 3) := by decide +kernel
theorem dX11_far_97 : decode cX11_far 97 = .ok (.aload_n 0, 1) := by decide +kernel
theorem dX11_far_98 : decode cX11_far 98 = .ok (.getfield 72, 3) := by decide +kernel
theorem dX11_far_101 : decode cX11_far 101 = .ok (.aload_n 0, 1) := by decide +kernel
theorem dX11_far_102 : decode cX11_far 102 = .ok (.getfield 40, 3) := by decide +kernel
theorem dX11_far_105 : decode cX11_far 105 = .ok (.iload_n 1, 1) := by decide +kernel
theorem dX11_far_106 : decode cX11_far 106 = .ok (.aaload, 1) := by decide +kernel
theorem dX11_far_107 : decode cX11_far 107 = .ok (.iload 6, 2) := by decide +kernel
theorem dX11_far_109 : decode cX11_far 109 = .ok (.iload 4, 2) := by decide +kernel
theorem dX11_far_111 : decode cX11_far 111 = .ok (.iconst 0, 1) := by decide +kernel
theorem dX11_far_112 : decode cX11_far 112 = .ok (.invokevirtual 257, 3) := by decide +kernel
theorem dX11_far_115 : decode cX11_far 115 = .ok (.lsub, 1) := by decide +kernel
theorem dX11_far_116 : decode cX11_far 116 = .ok (.lreturn, 1) := by decide +kernel
theorem dX11_known_0 : decode cX11_known 0 = .ok (.aload_n 0, 1) := by decide +kernel
theorem dX11_known_1 : decode cX11_known 1 = .ok (.aload_n 0, 1) := by decide +kernel
theorem dX11_known_2 : decode cX11_known 2 = .ok (.getfield 34, 3) := by decide +kernel
theorem dX11_known_5 : decode cX11_known 5 = .ok (.getfield 125, 3) := by decide +kernel
theorem dX11_known_8 : decode cX11_known 8 = .ok (.iload_n 1, 1) := by decide +kernel
theorem dX11_known_9 : decode cX11_known 9 = .ok (.iload_n 2, 1) := by decide +kernel
theorem dX11_known_10 : decode cX11_known 10 = .ok (.invokevirtual 270, 3) := by decide +kernel
theorem dX11_known_13 : decode cX11_known 13 = .ok (.ifCond .ne 7, 3) := by decide +kernel
theorem dX11_known_16 : decode cX11_known 16 = .ok (.iconst 1, 1) := by decide +kernel
theorem dX11_known_17 : decode cX11_known 17 = .ok (.goto 38, 3) := by decide +kernel
theorem dX11_known_20 : decode cX11_known 20 = .ok (.iload_n 3, 1) := by decide +kernel
theorem dX11_known_21 : decode cX11_known 21 = .ok (.iconst 0, 1) := by decide +kernel
theorem dX11_known_22 : decode cX11_known 22 = .ok (.ldc_w 273, 3) := by decide +kernel
theorem dX11_known_25 : decode cX11_known 25 = .ok (.invokestatic 188, 3) := by decide +kernel
theorem dX11_known_28 : decode cX11_known 28 = .ok (.ifCond .ne 7, 3) := by decide +kernel
theorem dX11_known_31 : decode cX11_known 31 = .ok (.iconst 2, 1) := by decide +kernel
theorem dX11_known_32 : decode cX11_known 32 = .ok (.goto 23, 3) := by decide +kernel
theorem dX11_known_35 : decode cX11_known 35 = .ok (.aload_n 0, 1) := by decide +kernel
theorem dX11_known_36 : decode cX11_known 36 = .ok (.getfield 34, 3) := by decide +kernel
theorem dX11_known_39 : decode cX11_known 39 = .ok (.getfield 125, 3) := by decide +kernel
theorem dX11_known_42 : decode cX11_known 42 = .ok (.iload_n 1, 1) := by decide +kernel
theorem dX11_known_43 : decode cX11_known 43 = .ok (.invokevirtual 274, 3) := by decide +kernel
theorem dX11_known_46 : decode cX11_known 46 = .ok (.iconst 2, 1) := by decide +kernel
theorem dX11_known_47 : decode cX11_known 47 = .ok (.if_icmp .le 7, 3) := by decide +kernel
theorem dX11_known_50 : decode cX11_known 50 = .ok (.iconst 5, 1) := by decide +kernel
theorem dX11_known_51 : decode cX11_known 51 = .ok (.goto 4, 3) := by decide +kernel
theorem dX11_known_54 : decode cX11_known 54 = .ok (.iconst 0, 1) := by decide +kernel
theorem dX11_known_55 : decode cX11_known 55 = .ok (.putfield 118, 3) := by decide +kernel
theorem dX11_known_58 : decode cX11_known 58 = .ok (.aload_n 0, 1) := by decide +kernel
theorem dX11_known_59 : decode cX11_known 59 = .ok (.getfield 118, 3) := by decide +kernel
theorem dX11_known_62 : decode cX11_known 62 = .ok (.ifCond .eq 5, 3) := by decide +kernel
theorem dX11_known_65 : decode cX11_known 65 = .ok (.iconst 0, 1) := by decide +kernel
theorem dX11_known_66 : decode cX11_known 66 = .ok (.ireturn, 1) := by decide +kernel
theorem dX11_known_67 : decode cX11_known 67 = .ok (.aload_n 0, 1) := by decide +kernel
theorem dX11_known_68 : decode cX11_known 68 = .ok (.getfield 81, 3) := by decide +kernel
theorem dX11_known_71 : decode cX11_known 71 = .ok (.iload_n 1, 1) := by decide +kernel
theorem dX11_known_72 : decode cX11_known 72 = .ok (.iload_n 2, 1) := by decide +kernel
theorem dX11_known_73 : decode cX11_known 73 = .ok (.iload_n 3, 1) := by decide +kernel
theorem dX11_known_74 : decode cX11_known 74 = .ok (.invokevirtual 277, 3) := by decide +kernel
theorem dX11_known_77 : decode cX11_known 77 = .ok (.iconst 1, 1) := by decide +kernel
theorem dX11_known_78 : decode cX11_known 78 = .ok (.ireturn, 1) := by decide +kernel
theorem dX11_agreed_0 : decode cX11_agreed 0 = .ok (.aload_n 0, 1) := by decide +kernel
theorem dX11_agreed_1 : decode cX11_agreed 1 = .ok (.aload_n 0, 1) := by decide +kernel
theorem dX11_agreed_2 : decode cX11_agreed 2 = .ok (.iload_n 1, 1) := by decide +kernel
theorem dX11_agreed_3 : decode cX11_agreed 3 = .ok (.iload_n 2, 1) := by decide +kernel
theorem dX11_agreed_4 : decode cX11_agreed 4 = .ok (.iload_n 3, 1) := by decide +kernel
theorem dX11_agreed_5 : decode cX11_agreed 5 = .ok (.invokevirtual 250, 3) := by decide +kernel
theorem dX11_agreed_8 : decode cX11_agreed 8 = .ok (.ifCond .ne 7, 3) := by decide +kernel
theorem dX11_agreed_11 : decode cX11_agreed 11 = .ok (.iconst 1, 1) := by decide +kernel
theorem dX11_agreed_12 : decode cX11_agreed 12 = .ok (.goto 19, 3) := by decide +kernel
theorem dX11_agreed_15 : decode cX11_agreed 15 = .ok (.aload_n 0, 1) := by decide +kernel
theorem dX11_agreed_16 : decode cX11_agreed 16 = .ok (.getfield 81, 3) := by decide +kernel
theorem dX11_agreed_19 : decode cX11_agreed 19 = .ok (.getfield 281, 3) := by decide +kernel
theorem dX11_agreed_22 : decode cX11_agreed 22 = .ok (.iconst (-1), 1) := by decide +kernel
theorem dX11_agreed_23 : decode cX11_agreed 23 = .ok (.if_icmp .ne 7, 3) := by decide +kernel
theorem dX11_agreed_26 : decode cX11_agreed 26 = .ok (.iconst 5, 1) := by decide +kernel
theorem dX11_agreed_27 : decode cX11_agreed 27 = .ok (.goto 4, 3) := by decide +kernel
theorem dX11_agreed_30 : decode cX11_agreed 30 = .ok (.iconst 0, 1) := by decide +kernel
theorem dX11_agreed_31 : decode cX11_agreed 31 = .ok (.putfield 118, 3) := by decide +kernel
theorem dX11_agreed_34 : decode cX11_agreed 34 = .ok (.aload_n 0, 1) := by decide +kernel
theorem dX11_agreed_35 : decode cX11_agreed 35 = .ok (.getfield 118, 3) := by decide +kernel
theorem dX11_agreed_38 : decode cX11_agreed 38 = .ok (.ifCond .ne 11, 3) := by decide +kernel
theorem dX11_agreed_41 : decode cX11_agreed 41 = .ok (.aload_n 0, 1) := by decide +kernel
theorem dX11_agreed_42 : decode cX11_agreed 42 = .ok (.iload_n 1, 1) := by decide +kernel
theorem dX11_agreed_43 : decode cX11_agreed 43 = .ok (.invokevirtual 244, 3) := by decide +kernel
theorem dX11_agreed_46 : decode cX11_agreed 46 = .ok (.ifCond .ne 7, 3) := by decide +kernel
theorem dX11_agreed_49 : decode cX11_agreed 49 = .ok (.ldc2_w 252, 3) := by decide +kernel
theorem dX11_agreed_52 : decode cX11_agreed 52 = .ok (.lreturn, 1) := by decide +kernel
theorem dX11_agreed_53 : decode cX11_agreed 53 = .ok (.aload_n 0, 1) := by decide +kernel
theorem dX11_agreed_54 : decode cX11_agreed 54 = .ok (.getfield 81, 3) := by decide +kernel
theorem dX11_agreed_57 : decode cX11_agreed 57 = .ok (.aload_n 0, 1) := by decide +kernel
theorem dX11_agreed_58 : decode cX11_agreed 58 = .ok (.getfield 40, 3) := by decide +kernel
theorem dX11_agreed_61 : decode cX11_agreed 61 = .ok (.iload_n 1, 1) := by decide +kernel
theorem dX11_agreed_62 : decode cX11_agreed 62 = .ok (.aaload, 1) := by decide +kernel
theorem dX11_agreed_63 : decode cX11_agreed 63 = .ok (.aload_n 0, 1) := by decide +kernel
theorem dX11_agreed_64 : decode cX11_agreed 64 = .ok (.getfield 40, 3) := by decide +kernel
theorem dX11_agreed_67 : decode cX11_agreed 67 = .ok (.iload_n 1, 1) := by decide +kernel
theorem dX11_agreed_68 : decode cX11_agreed 68 = .ok (.aaload, 1) := by decide +kernel
theorem dX11_agreed_69 : decode cX11_agreed 69 = .ok (.iload_n 2, 1) := by decide +kernel
theorem dX11_agreed_70 : decode cX11_agreed 70 = .ok (.iload_n 3, 1) := by decide +kernel
theorem dX11_agreed_71 : decode cX11_agreed 71 = .ok (.invokevirtual 254, 3) := by decide +kernel
theorem dX11_agreed_74 : decode cX11_agreed 74 = .ok (.invokevirtual 284, 3) := by decide +kernel
theorem dX11_agreed_77 : decode cX11_agreed 77 = .ok (.iload 4, 2) := by decide +kernel
theorem dX11_agreed_79 : decode cX11_agreed 79 = .ok (.ifCond .eq 13, 3) := by decide +kernel
theorem dX11_agreed_82 : decode cX11_agreed 82 = .ok (.aload_n 0, 1) := by decide +kernel
theorem dX11_agreed_83 : decode cX11_agreed 83 = .ok (.getfield 81, 3) := by decide +kernel
theorem dX11_agreed_86 : decode cX11_agreed 86 = .ok (.getfield 288, 3) := by decide +kernel
theorem dX11_agreed_89 : decode cX11_agreed 89 = .ok (.goto 10, 3) := by decide +kernel
theorem dX11_agreed_92 : decode cX11_agreed 92 = .ok (.aload_n 0, 1) := by decide +kernel
theorem dX11_agreed_93 : decode cX11_agreed 93 = .ok (.getfield 81, 3) := by decide +kernel
theorem dX11_agreed_96 : decode cX11_agreed 96 = .ok (.getfield 292, 3) := by decide +kernel
theorem dX11_agreed_99 : decode cX11_agreed 99 = .ok (.lreturn, 1) := by decide +kernel
theorem dX11_group_0 : decode cX11_group 0 = .ok (.aload_n 0, 1) := by decide +kernel
theorem dX11_group_1 : decode cX11_group 1 = .ok (.aload_n 0, 1) := by decide +kernel
theorem dX11_group_2 : decode cX11_group 2 = .ok (.getfield 34, 3) := by decide +kernel
theorem dX11_group_5 : decode cX11_group 5 = .ok (.getfield 125, 3) := by decide +kernel
theorem dX11_group_8 : decode cX11_group 8 = .ok (.iload_n 1, 1) := by decide +kernel
theorem dX11_group_9 : decode cX11_group 9 = .ok (.iload_n 2, 1) := by decide +kernel
theorem dX11_group_10 : decode cX11_group 10 = .ok (.invokevirtual 270, 3) := by decide +kernel
theorem dX11_group_13 : decode cX11_group 13 = .ok (.ifCond .ne 7, 3) := by decide +kernel
theorem dX11_group_16 : decode cX11_group 16 = .ok (.iconst 1, 1) := by decide +kernel
theorem dX11_group_17 : decode cX11_group 17 = .ok (.goto 18, 3) := by decide +kernel
theorem dX11_group_20 : decode cX11_group 20 = .ok (.iload_n 3, 1) := by decide +kernel
theorem dX11_group_21 : decode cX11_group 21 = .ok (.iconst 0, 1) := by decide +kernel
theorem dX11_group_22 : decode cX11_group 22 = .ok (.bipush 9, 2) := by decide +kernel
theorem dX11_group_24 : decode cX11_group 24 = .ok (.invokestatic 188, 3) := by decide +kernel
theorem dX11_group_27 : decode cX11_group 27 = .ok (.ifCond .eq 7, 3) := by decide +kernel
theorem dX11_group_30 : decode cX11_group 30 = .ok (.iconst 0, 1) := by decide +kernel
theorem dX11_group_31 : decode cX11_group 31 = .ok (.goto 4, 3) := by decide +kernel
theorem dX11_group_34 : decode cX11_group 34 = .ok (.iconst 2, 1) := by decide +kernel
theorem dX11_group_35 : decode cX11_group 35 = .ok (.putfield 118, 3) := by decide +kernel
theorem dX11_group_38 : decode cX11_group 38 = .ok (.aload_n 0, 1) := by decide +kernel
theorem dX11_group_39 : decode cX11_group 39 = .ok (.getfield 118, 3) := by decide +kernel
theorem dX11_group_42 : decode cX11_group 42 = .ok (.ifCond .eq 5, 3) := by decide +kernel
theorem dX11_group_45 : decode cX11_group 45 = .ok (.iconst 0, 1) := by decide +kernel
theorem dX11_group_46 : decode cX11_group 46 = .ok (.ireturn, 1) := by decide +kernel
theorem dX11_group_47 : decode cX11_group 47 = .ok (.aload_n 0, 1) := by decide +kernel
theorem dX11_group_48 : decode cX11_group 48 = .ok (.getfield 88, 3) := by decide +kernel
theorem dX11_group_51 : decode cX11_group 51 = .ok (.iload_n 1, 1) := by decide +kernel
theorem dX11_group_52 : decode cX11_group 52 = .ok (.iload_n 2, 1) := by decide +kernel
theorem dX11_group_53 : decode cX11_group 53 = .ok (.iload_n 3, 1) := by decide +kernel
theorem dX11_group_54 : decode cX11_group 54 = .ok (.invokevirtual 295, 3) := by decide +kernel
theorem dX11_group_57 : decode cX11_group 57 = .ok (.iconst 1, 1) := by decide +kernel
theorem dX11_group_58 : decode cX11_group 58 = .ok (.ireturn, 1) := by decide +kernel
theorem dX11_small_0 : decode cX11_small 0 = .ok (.aload_n 0, 1) := by decide +kernel
theorem dX11_small_1 : decode cX11_small 1 = .ok (.aload_n 0, 1) := by decide +kernel
theorem dX11_small_2 : decode cX11_small 2 = .ok (.iload_n 1, 1) := by decide +kernel
theorem dX11_small_3 : decode cX11_small 3 = .ok (.invokevirtual 244, 3) := by decide +kernel
theorem dX11_small_6 : decode cX11_small 6 = .ok (.ifCond .eq 28, 3) := by decide +kernel
theorem dX11_small_9 : decode cX11_small 9 = .ok (.aload_n 0, 1) := by decide +kernel
theorem dX11_small_10 : decode cX11_small 10 = .ok (.getfield 34, 3) := by decide +kernel
theorem dX11_small_13 : decode cX11_small 13 = .ok (.getfield 125, 3) := by decide +kernel
theorem dX11_small_16 : decode cX11_small 16 = .ok (.iload_n 2, 1) := by decide +kernel
theorem dX11_small_17 : decode cX11_small 17 = .ok (.iload_n 3, 1) := by decide +kernel
theorem dX11_small_18 : decode cX11_small 18 = .ok (.invokevirtual 270, 3) := by decide +kernel
theorem dX11_small_21 : decode cX11_small 21 = .ok (.ifCond .eq 13, 3) := by decide +kernel
theorem dX11_small_24 : decode cX11_small 24 = .ok (.iload 4, 2) := by decide +kernel
theorem dX11_small_26 : decode cX11_small 26 = .ok (.iconst 0, 1) := by decide +kernel
theorem dX11_small_27 : decode cX11_small 27 = .ok (.iconst 3, 1) := by decide +kernel
theorem dX11_small_28 : decode cX11_small 28 = .ok (.invokestatic 188, 3) := by decide +kernel
theorem dX11_small_31 : decode cX11_small 31 = .ok (.ifCond .ne 7, 3) := by decide +kernel
theorem dX11_small_34 : decode cX11_small 34 = .ok (.iconst 1, 1) := by decide +kernel
theorem dX11_small_35 : decode cX11_small 35 = .ok (.goto 21, 3) := by decide +kernel
theorem dX11_small_38 : decode cX11_small 38 = .ok (.aload_n 0, 1) := by decide +kernel
theorem dX11_small_39 : decode cX11_small 39 = .ok (.getfield 40, 3) := by decide +kernel
theorem dX11_small_42 : decode cX11_small 42 = .ok (.iload_n 1, 1) := by decide +kernel
theorem dX11_small_43 : decode cX11_small 43 = .ok (.aaload, 1) := by decide +kernel
theorem dX11_small_44 : decode cX11_small 44 = .ok (.getfield 298, 3) := by decide +kernel
theorem dX11_small_47 : decode cX11_small 47 = .ok (.iconst (-1), 1) := by decide +kernel
theorem dX11_small_48 : decode cX11_small 48 = .ok (.if_icmp .eq 7, 3) := by decide +kernel
theorem dX11_small_51 : decode cX11_small 51 = .ok (.iconst 5, 1) := by decide +kernel
theorem dX11_small_52 : decode cX11_small 52 = .ok (.goto 4, 3) := by decide +kernel
theorem dX11_small_55 : decode cX11_small 55 = .ok (.iconst 0, 1) := by decide +kernel
theorem dX11_small_56 : decode cX11_small 56 = .ok (.putfield 118, 3) := by decide +kernel
theorem dX11_small_59 : decode cX11_small 59 = .ok (.aload_n 0, 1) := by decide +kernel
theorem dX11_small_60 : decode cX11_small 60 = .ok (.getfield 118, 3) := by decide +kernel
theorem dX11_small_63 : decode cX11_small 63 = .ok (.ifCond .ne 11, 3) := by decide +kernel
theorem dX11_small_66 : decode cX11_small 66 = .ok (.aload_n 0, 1) := by decide +kernel
theorem dX11_small_67 : decode cX11_small 67 = .ok (.iload_n 1, 1) := by decide +kernel
theorem dX11_small_68 : decode cX11_small 68 = .ok (.invokevirtual 244, 3) := by decide +kernel
theorem dX11_small_71 : decode cX11_small 71 = .ok (.ifCond .ne 5, 3) := by decide +kernel
theorem dX11_small_74 : decode cX11_small 74 = .ok (.iconst (-1), 1) := by decide +kernel
theorem dX11_small_75 : decode cX11_small 75 = .ok (.ireturn, 1) := by decide +kernel
theorem dX11_small_76 : decode cX11_small 76 = .ok (.aload_n 0, 1) := by decide +kernel
theorem dX11_small_77 : decode cX11_small 77 = .ok (.getfield 88, 3) := by decide +kernel
theorem dX11_small_80 : decode cX11_small 80 = .ok (.aload_n 0, 1) := by decide +kernel
theorem dX11_small_81 : decode cX11_small 81 = .ok (.getfield 40, 3) := by decide +kernel
theorem dX11_small_84 : decode cX11_small 84 = .ok (.iload_n 1, 1) := by decide +kernel
theorem dX11_small_85 : decode cX11_small 85 = .ok (.aaload, 1) := by decide +kernel
theorem dX11_small_86 : decode cX11_small 86 = .ok (.iload_n 2, 1) := by decide +kernel
theorem dX11_small_87 : decode cX11_small 87 = .ok (.iload_n 3, 1) := by decide +kernel
theorem dX11_small_88 : decode cX11_small 88 = .ok (.invokevirtual 301, 3) := by decide +kernel
theorem dX11_small_91 : decode cX11_small 91 = .ok (.iload 4, 2) := by decide +kernel
theorem dX11_small_93 : decode cX11_small 93 = .ok (.tableswitch 57 0 2 #[27, 41, 49], 27) := by decide +kernel
theorem dX11_small_120 : decode cX11_small 120 = .ok (.aload_n 0, 1) := by decide +kernel
theorem dX11_small_121 : decode cX11_small 121 = .ok (.getfield 88, 3) := by decide +kernel
theorem dX11_small_124 : decode cX11_small 124 = .ok (.aload_n 0, 1) := by decide +kernel
theorem dX11_small_125 : decode cX11_small 125 = .ok (.getfield 57, 3) := by decide +kernel
theorem dX11_small_128 : decode cX11_small 128 = .ok (.iconst 2, 1) := by decide +kernel
theorem dX11_small_129 : decode cX11_small 129 = .ok (.iaload, 1) := by decide +kernel
theorem dX11_small_130 : decode cX11_small 130 = .ok (.invokevirtual 305, 3) := by decide +kernel
theorem dX11_small_133 : decode cX11_small 133 = .ok (.ireturn, 1) := by decide +kernel
theorem dX11_small_134 : decode cX11_small 134 = .ok (.aload_n 0, 1) := by decide +kernel
theorem dX11_small_135 : decode cX11_small 135 = .ok (.getfield 88, 3) := by decide +kernel
theorem dX11_small_138 : decode cX11_small 138 = .ok (.invokevirtual 308, 3) := by decide +kernel
theorem dX11_small_141 : decode cX11_small 141 = .ok (.ireturn, 1) := by decide +kernel
theorem dX11_small_142 : decode cX11_small 142 = .ok (.aload_n 0, 1) := by decide +kernel
theorem dX11_small_143 : decode cX11_small 143 = .ok (.getfield 88, 3) := by decide +kernel
theorem dX11_small_146 : decode cX11_small 146 = .ok (.invokevirtual 312, 3) := by decide +kernel
theorem dX11_small_149 : decode cX11_small 149 = .ok (.ireturn, 1) := by decide +kernel
theorem dX11_small_150 : decode cX11_small 150 = .ok (.aload_n 0, 1) := by decide +kernel
theorem dX11_small_151 : decode cX11_small 151 = .ok (.getfield 88, 3) := by decide +kernel
theorem dX11_small_154 : decode cX11_small 154 = .ok (.aload_n 0, 1) := by decide +kernel
theorem dX11_small_155 : decode cX11_small 155 = .ok (.getfield 57, 3) := by decide +kernel
theorem dX11_small_158 : decode cX11_small 158 = .ok (.iconst 2, 1) := by decide +kernel
theorem dX11_small_159 : decode cX11_small 159 = .ok (.iaload, 1) := by decide +kernel
theorem dX11_small_160 : decode cX11_small 160 = .ok (.invokevirtual 315, 3) := by decide +kernel
theorem dX11_small_163 : decode cX11_small 163 = .ok (.ireturn, 1) := by decide +kernel
theorem dX11_set_0 : decode cX11_set 0 = .ok (.aload_n 0, 1) := by decide +kernel
theorem dX11_set_1 : decode cX11_set 1 = .ok (.aload_n 0, 1) := by decide +kernel
theorem dX11_set_2 : decode cX11_set 2 = .ok (.invokevirtual 151, 3) := by decide +kernel
theorem dX11_set_5 : decode cX11_set 5 = .ok (.ifCond .eq 12, 3) := by decide +kernel
theorem dX11_set_8 : decode cX11_set 8 = .ok (.iload_n 1, 1) := by decide +kernel
theorem dX11_set_9 : decode cX11_set 9 = .ok (.iconst 0, 1) := by decide +kernel
theorem dX11_set_10 : decode cX11_set 10 = .ok (.iconst 3, 1) := by decide +kernel
theorem dX11_set_11 : decode cX11_set 11 = .ok (.invokestatic 188, 3) := by decide +kernel
theorem dX11_set_14 : decode cX11_set 14 = .ok (.ifCond .ne 7, 3) := by decide +kernel
theorem dX11_set_17 : decode cX11_set 17 = .ok (.iconst 1, 1) := by decide +kernel
theorem dX11_set_18 : decode cX11_set 18 = .ok (.goto 25, 3) := by decide +kernel
theorem dX11_set_21 : decode cX11_set 21 = .ok (.iload_n 2, 1) := by decide +kernel
theorem dX11_set_22 : decode cX11_set 22 = .ok (.getstatic 318, 3) := by decide +kernel
theorem dX11_set_25 : decode cX11_set 25 = .ok (.iload_n 1, 1) := by decide +kernel
theorem dX11_set_26 : decode cX11_set 26 = .ok (.iaload, 1) := by decide +kernel
theorem dX11_set_27 : decode cX11_set 27 = .ok (.getstatic 321, 3) := by decide +kernel
theorem dX11_set_30 : decode cX11_set 30 = .ok (.iload_n 1, 1) := by decide +kernel
theorem dX11_set_31 : decode cX11_set 31 = .ok (.iaload, 1) := by decide +kernel
theorem dX11_set_32 : decode cX11_set 32 = .ok (.invokestatic 188, 3) := by decide +kernel
theorem dX11_set_35 : decode cX11_set 35 = .ok (.ifCond .eq 7, 3) := by decide +kernel
theorem dX11_set_38 : decode cX11_set 38 = .ok (.iconst 0, 1) := by decide +kernel
theorem dX11_set_39 : decode cX11_set 39 = .ok (.goto 4, 3) := by decide +kernel
theorem dX11_set_42 : decode cX11_set 42 = .ok (.iconst 2, 1) := by decide +kernel
theorem dX11_set_43 : decode cX11_set 43 = .ok (.putfield 118, 3) := by decide +kernel
theorem dX11_set_46 : decode cX11_set 46 = .ok (.aload_n 0, 1) := by decide +kernel
theorem dX11_set_47 : decode cX11_set 47 = .ok (.getfield 118, 3) := by decide +kernel
theorem dX11_set_50 : decode cX11_set 50 = .ok (.ifCond .ne 12, 3) := by decide +kernel
theorem dX11_set_53 : decode cX11_set 53 = .ok (.iload_n 1, 1) := by decide +kernel
theorem dX11_set_54 : decode cX11_set 54 = .ok (.iconst 0, 1) := by decide +kernel
theorem dX11_set_55 : decode cX11_set 55 = .ok (.iconst 3, 1) := by decide +kernel
theorem dX11_set_56 : decode cX11_set 56 = .ok (.invokestatic 188, 3) := by decide +kernel
theorem dX11_set_59 : decode cX11_set 59 = .ok (.ifCond .ne 5, 3) := by decide +kernel
theorem dX11_set_62 : decode cX11_set 62 = .ok (.iconst 0, 1) := by decide +kernel
theorem dX11_set_63 : decode cX11_set 63 = .ok (.ireturn, 1) := by decide +kernel
theorem dX11_set_64 : decode cX11_set 64 = .ok (.aload_n 0, 1) := by decide +kernel
theorem dX11_set_65 : decode cX11_set 65 = .ok (.getfield 57, 3) := by decide +kernel
theorem dX11_set_68 : decode cX11_set 68 = .ok (.iload_n 1, 1) := by decide +kernel
theorem dX11_set_69 : decode cX11_set 69 = .ok (.iload_n 2, 1) := by decide +kernel
theorem dX11_set_70 : decode cX11_set 70 = .ok (.iastore, 1) := by decide +kernel
theorem dX11_set_71 : decode cX11_set 71 = .ok (.iconst 1, 1) := by decide +kernel
theorem dX11_set_72 : decode cX11_set 72 = .ok (.ireturn, 1) := by decide +kernel
theorem dX11_hasGuarded_0 : decode cX11_hasGuarded 0 = .ok (.aload_n 0, 1) := by decide +kernel
theorem dX11_hasGuarded_1 : decode cX11_hasGuarded 1 = .ok (.iload_n 1, 1) := by decide +kernel
theorem dX11_hasGuarded_2 : decode cX11_hasGuarded 2 = .ok (.invokevirtual 244, 3) := by decide +kernel
theorem dX11_hasGuarded_5 : decode cX11_hasGuarded 5 = .ok (.ifCond .eq 19, 3) := by decide +kernel
theorem dX11_hasGuarded_8 : decode cX11_hasGuarded 8 = .ok (.aload_n 0, 1) := by decide +kernel
theorem dX11_hasGuarded_9 : decode cX11_hasGuarded 9 = .ok (.getfield 40, 3) := by decide +kernel
theorem dX11_hasGuarded_12 : decode cX11_hasGuarded 12 = .ok (.iload_n 1, 1) := by decide +kernel
theorem dX11_hasGuarded_13 : decode cX11_hasGuarded 13 = .ok (.aaload, 1) := by decide +kernel
theorem dX11_hasGuarded_14 : decode cX11_hasGuarded 14 = .ok (.invokevirtual 324, 3) := by decide +kernel
theorem dX11_hasGuarded_17 : decode cX11_hasGuarded 17 = .ok (.ifCond .eq 7, 3) := by decide +kernel
theorem dX11_hasGuarded_20 : decode cX11_hasGuarded 20 = .ok (.iconst 1, 1) := by decide +kernel
theorem dX11_hasGuarded_21 : decode cX11_hasGuarded 21 = .ok (.goto 4, 3) := by decide +kernel
theorem dX11_hasGuarded_24 : decode cX11_hasGuarded 24 = .ok (.iconst 0, 1) := by decide +kernel
theorem dX11_hasGuarded_25 : decode cX11_hasGuarded 25 = .ok (.ireturn, 1) := by decide +kernel
theorem dX11_shy_0 : decode cX11_shy 0 = .ok (.aload_n 0, 1) := by decide +kernel
theorem dX11_shy_1 : decode cX11_shy 1 = .ok (.aload_n 0, 1) := by decide +kernel
theorem dX11_shy_2 : decode cX11_shy 2 = .ok (.iload_n 1, 1) := by decide +kernel
theorem dX11_shy_3 : decode cX11_shy 3 = .ok (.invokevirtual 244, 3) := by decide +kernel
theorem dX11_shy_6 : decode cX11_shy 6 = .ok (.ifCond .ne 7, 3) := by decide +kernel
theorem dX11_shy_9 : decode cX11_shy 9 = .ok (.iconst 1, 1) := by decide +kernel
theorem dX11_shy_10 : decode cX11_shy 10 = .ok (.goto 16, 3) := by decide +kernel
theorem dX11_shy_13 : decode cX11_shy 13 = .ok (.aload_n 0, 1) := by decide +kernel
theorem dX11_shy_14 : decode cX11_shy 14 = .ok (.iload_n 1, 1) := by decide +kernel
theorem dX11_shy_15 : decode cX11_shy 15 = .ok (.invokevirtual 327, 3) := by decide +kernel
theorem dX11_shy_18 : decode cX11_shy 18 = .ok (.ifCond .eq 7, 3) := by decide +kernel
theorem dX11_shy_21 : decode cX11_shy 21 = .ok (.iconst 0, 1) := by decide +kernel
theorem dX11_shy_22 : decode cX11_shy 22 = .ok (.goto 4, 3) := by decide +kernel
theorem dX11_shy_25 : decode cX11_shy 25 = .ok (.iconst 5, 1) := by decide +kernel
theorem dX11_shy_26 : decode cX11_shy 26 = .ok (.putfield 118, 3) := by decide +kernel
theorem dX11_shy_29 : decode cX11_shy 29 = .ok (.aload_n 0, 1) := by decide +kernel
theorem dX11_shy_30 : decode cX11_shy 30 = .ok (.getfield 118, 3) := by decide +kernel
theorem dX11_shy_33 : decode cX11_shy 33 = .ok (.ifCond .ne 11, 3) := by decide +kernel
theorem dX11_shy_36 : decode cX11_shy 36 = .ok (.aload_n 0, 1) := by decide +kernel
theorem dX11_shy_37 : decode cX11_shy 37 = .ok (.iload_n 1, 1) := by decide +kernel
theorem dX11_shy_38 : decode cX11_shy 38 = .ok (.invokevirtual 244, 3) := by decide +kernel
theorem dX11_shy_41 : decode cX11_shy 41 = .ok (.ifCond .ne 5, 3) := by decide +kernel
theorem dX11_shy_44 : decode cX11_shy 44 = .ok (.iconst (-1), 1) := by decide +kernel
theorem dX11_shy_45 : decode cX11_shy 45 = .ok (.ireturn, 1) := by decide +kernel
theorem dX11_shy_46 : decode cX11_shy 46 = .ok (.aload_n 0, 1) := by decide +kernel
theorem dX11_shy_47 : decode cX11_shy 47 = .ok (.getfield 95, 3) := by decide +kernel
theorem dX11_shy_50 : decode cX11_shy 50 = .ok (.aload_n 0, 1) := by decide +kernel
theorem dX11_shy_51 : decode cX11_shy 51 = .ok (.getfield 40, 3) := by decide +kernel
theorem dX11_shy_54 : decode cX11_shy 54 = .ok (.iload_n 1, 1) := by decide +kernel
theorem dX11_shy_55 : decode cX11_shy 55 = .ok (.aaload, 1) := by decide +kernel
theorem dX11_shy_56 : decode cX11_shy 56 = .ok (.invokevirtual 330, 3) := by decide +kernel
theorem dX11_shy_59 : decode cX11_shy 59 = .ok (.aload_n 0, 1) := by decide +kernel
theorem dX11_shy_60 : decode cX11_shy 60 = .ok (.getfield 95, 3) := by decide +kernel
theorem dX11_shy_63 : decode cX11_shy 63 = .ok (.aload_n 0, 1) := by decide +kernel
theorem dX11_shy_64 : decode cX11_shy 64 = .ok (.getfield 57, 3) := by decide +kernel
theorem dX11_shy_67 : decode cX11_shy 67 = .ok (.iconst 0, 1) := by decide +kernel
theorem dX11_shy_68 : decode cX11_shy 68 = .ok (.iaload, 1) := by decide +kernel
theorem dX11_shy_69 : decode cX11_shy 69 = .ok (.invokevirtual 334, 3) := by decide +kernel
theorem dX11_shy_72 : decode cX11_shy 72 = .ok (.invokestatic 338, 3) := by decide +kernel
theorem dX11_shy_75 : decode cX11_shy 75 = .ok (.ireturn, 1) := by decide +kernel
theorem dX11_edge_0 : decode cX11_edge 0 = .ok (.aload_n 0, 1) := by decide +kernel
theorem dX11_edge_1 : decode cX11_edge 1 = .ok (.aload_n 0, 1) := by decide +kernel
theorem dX11_edge_2 : decode cX11_edge 2 = .ok (.iload_n 1, 1) := by decide +kernel
theorem dX11_edge_3 : decode cX11_edge 3 = .ok (.iload_n 2, 1) := by decide +kernel
theorem dX11_edge_4 : decode cX11_edge 4 = .ok (.iload_n 3, 1) := by decide +kernel
theorem dX11_edge_5 : decode cX11_edge 5 = .ok (.invokevirtual 250, 3) := by decide +kernel
theorem dX11_edge_8 : decode cX11_edge 8 = .ok (.ifCond .ne 7, 3) := by decide +kernel
theorem dX11_edge_11 : decode cX11_edge 11 = .ok (.iconst 1, 1) := by decide +kernel
theorem dX11_edge_12 : decode cX11_edge 12 = .ok (.goto 37, 3) := by decide +kernel
theorem dX11_edge_15 : decode cX11_edge 15 = .ok (.aload_n 0, 1) := by decide +kernel
theorem dX11_edge_16 : decode cX11_edge 16 = .ok (.iload_n 1, 1) := by decide +kernel
theorem dX11_edge_17 : decode cX11_edge 17 = .ok (.invokevirtual 327, 3) := by decide +kernel
theorem dX11_edge_20 : decode cX11_edge 20 = .ok (.ifCond .ne 7, 3) := by decide +kernel
theorem dX11_edge_23 : decode cX11_edge 23 = .ok (.iconst 5, 1) := by decide +kernel
theorem dX11_edge_24 : decode cX11_edge 24 = .ok (.goto 25, 3) := by decide +kernel
theorem dX11_edge_27 : decode cX11_edge 27 = .ok (.aload_n 0, 1) := by decide +kernel
theorem dX11_edge_28 : decode cX11_edge 28 = .ok (.getfield 40, 3) := by decide +kernel
theorem dX11_edge_31 : decode cX11_edge 31 = .ok (.iload_n 1, 1) := by decide +kernel
theorem dX11_edge_32 : decode cX11_edge 32 = .ok (.aaload, 1) := by decide +kernel
theorem dX11_edge_33 : decode cX11_edge 33 = .ok (.aload_n 0, 1) := by decide +kernel
theorem dX11_edge_34 : decode cX11_edge 34 = .ok (.getfield 40, 3) := by decide +kernel
theorem dX11_edge_37 : decode cX11_edge 37 = .ok (.iload_n 1, 1) := by decide +kernel
theorem dX11_edge_38 : decode cX11_edge 38 = .ok (.aaload, 1) := by decide +kernel
theorem dX11_edge_39 : decode cX11_edge 39 = .ok (.iload_n 2, 1) := by decide +kernel
theorem dX11_edge_40 : decode cX11_edge 40 = .ok (.iload_n 3, 1) := by decide +kernel
theorem dX11_edge_41 : decode cX11_edge 41 = .ok (.invokevirtual 254, 3) := by decide +kernel
theorem dX11_edge_44 : decode cX11_edge 44 = .ok (.lload 4, 2) := by decide +kernel
theorem dX11_edge_46 : decode cX11_edge 46 = .ok (.invokestatic 344, 3) := by decide +kernel
theorem dX11_edge_49 : decode cX11_edge 49 = .ok (.putfield 118, 3) := by decide +kernel
theorem dX11_edge_52 : decode cX11_edge 52 = .ok (.aload_n 0, 1) := by decide +kernel
theorem dX11_edge_53 : decode cX11_edge 53 = .ok (.getfield 118, 3) := by decide +kernel
theorem dX11_edge_56 : decode cX11_edge 56 = .ok (.ifCond .ne 11, 3) := by decide +kernel
theorem dX11_edge_59 : decode cX11_edge 59 = .ok (.aload_n 0, 1) := by decide +kernel
theorem dX11_edge_60 : decode cX11_edge 60 = .ok (.iload_n 1, 1) := by decide +kernel
theorem dX11_edge_61 : decode cX11_edge 61 = .ok (.invokevirtual 244, 3) := by decide +kernel
theorem dX11_edge_64 : decode cX11_edge 64 = .ok (.ifCond .ne 5, 3) := by decide +kernel
theorem dX11_edge_67 : decode cX11_edge 67 = .ok (.iconst (-1), 1) := by decide +kernel
theorem dX11_edge_68 : decode cX11_edge 68 = .ok (.ireturn, 1) := by decide +kernel
theorem dX11_edge_69 : decode cX11_edge 69 = .ok (.aload_n 0, 1) := by decide +kernel
theorem dX11_edge_70 : decode cX11_edge 70 = .ok (.getfield 95, 3) := by decide +kernel
theorem dX11_edge_73 : decode cX11_edge 73 = .ok (.aload_n 0, 1) := by decide +kernel
theorem dX11_edge_74 : decode cX11_edge 74 = .ok (.getfield 40, 3) := by decide +kernel
theorem dX11_edge_77 : decode cX11_edge 77 = .ok (.iload_n 1, 1) := by decide +kernel
theorem dX11_edge_78 : decode cX11_edge 78 = .ok (.aaload, 1) := by decide +kernel
theorem dX11_edge_79 : decode cX11_edge 79 = .ok (.invokevirtual 330, 3) := by decide +kernel
theorem dX11_edge_82 : decode cX11_edge 82 = .ok (.aload_n 0, 1) := by decide +kernel
theorem dX11_edge_83 : decode cX11_edge 83 = .ok (.getfield 95, 3) := by decide +kernel
theorem dX11_edge_86 : decode cX11_edge 86 = .ok (.aload_n 0, 1) := by decide +kernel
theorem dX11_edge_87 : decode cX11_edge 87 = .ok (.getfield 40, 3) := by decide +kernel
theorem dX11_edge_90 : decode cX11_edge 90 = .ok (.iload_n 1, 1) := by decide +kernel
theorem dX11_edge_91 : decode cX11_edge 91 = .ok (.aaload, 1) := by decide +kernel
theorem dX11_edge_92 : decode cX11_edge 92 = .ok (.iload_n 2, 1) := by decide +kernel
theorem dX11_edge_93 : decode cX11_edge 93 = .ok (.iload_n 3, 1) := by decide +kernel
theorem dX11_edge_94 : decode cX11_edge 94 = .ok (.invokevirtual 254, 3) := by decide +kernel
theorem dX11_edge_97 : decode cX11_edge 97 = .ok (.lload 4, 2) := by decide +kernel
theorem dX11_edge_99 : decode cX11_edge 99 = .ok (.iload 6, 2) := by decide +kernel
theorem dX11_edge_101 : decode cX11_edge 101 = .ok (.invokevirtual 348, 3) := by decide +kernel
theorem dX11_edge_104 : decode cX11_edge 104 = .ok (.ireturn, 1) := by decide +kernel
theorem dX11_troubleOfEdge_0 : decode cX11_troubleOfEdge 0 = .ok (.iload_n 1, 1) := by decide +kernel
theorem dX11_troubleOfEdge_1 : decode cX11_troubleOfEdge 1 = .ok (.lload_n 2, 1) := by decide +kernel
theorem dX11_troubleOfEdge_2 : decode cX11_troubleOfEdge 2 = .ok (.invokestatic 352, 3) := by decide +kernel
theorem dX11_troubleOfEdge_5 : decode cX11_troubleOfEdge 5 = .ok (.ifCond .ne 7, 3) := by decide +kernel
theorem dX11_troubleOfEdge_8 : decode cX11_troubleOfEdge 8 = .ok (.iconst 5, 1) := by decide +kernel
theorem dX11_troubleOfEdge_9 : decode cX11_troubleOfEdge 9 = .ok (.goto 16, 3) := by decide +kernel
theorem dX11_troubleOfEdge_12 : decode cX11_troubleOfEdge 12 = .ok (.aload_n 0, 1) := by decide +kernel
theorem dX11_troubleOfEdge_13 : decode cX11_troubleOfEdge 13 = .ok (.lload_n 2, 1) := by decide +kernel
theorem dX11_troubleOfEdge_14 : decode cX11_troubleOfEdge 14 = .ok (.invokevirtual 356, 3) := by decide +kernel
theorem dX11_troubleOfEdge_17 : decode cX11_troubleOfEdge 17 = .ok (.ifCond .eq 7, 3) := by decide +kernel
theorem dX11_troubleOfEdge_20 : decode cX11_troubleOfEdge 20 = .ok (.iconst 0, 1) := by decide +kernel
theorem dX11_troubleOfEdge_21 : decode cX11_troubleOfEdge 21 = .ok (.goto 4, 3) := by decide +kernel
theorem dX11_troubleOfEdge_24 : decode cX11_troubleOfEdge 24 = .ok (.iconst 2, 1) := by decide +kernel
theorem dX11_troubleOfEdge_25 : decode cX11_troubleOfEdge 25 = .ok (.ireturn, 1) := by decide +kernel
theorem dX11_wide_0 : decode cX11_wide 0 = .ok (.aload_n 0, 1) := by decide +kernel
theorem dX11_wide_1 : decode cX11_wide 1 = .ok (.aload_n 0, 1) := by decide +kernel
theorem dX11_wide_2 : decode cX11_wide 2 = .ok (.iload_n 1, 1) := by decide +kernel
theorem dX11_wide_3 : decode cX11_wide 3 = .ok (.invokevirtual 244, 3) := by decide +kernel
theorem dX11_wide_6 : decode cX11_wide 6 = .ok (.ifCond .ne 7, 3) := by decide +kernel
theorem dX11_wide_9 : decode cX11_wide 9 = .ok (.iconst 1, 1) := by decide +kernel
theorem dX11_wide_10 : decode cX11_wide 10 = .ok (.goto 33, 3) := by decide +kernel
theorem dX11_wide_13 : decode cX11_wide 13 = .ok (.aload_n 0, 1) := by decide +kernel
theorem dX11_wide_14 : decode cX11_wide 14 = .ok (.iload_n 1, 1) := by decide +kernel
theorem dX11_wide_15 : decode cX11_wide 15 = .ok (.invokevirtual 327, 3) := by decide +kernel
theorem dX11_wide_18 : decode cX11_wide 18 = .ok (.ifCond .ne 7, 3) := by decide +kernel
theorem dX11_wide_21 : decode cX11_wide 21 = .ok (.iconst 5, 1) := by decide +kernel
theorem dX11_wide_22 : decode cX11_wide 22 = .ok (.goto 21, 3) := by decide +kernel
theorem dX11_wide_25 : decode cX11_wide 25 = .ok (.aload_n 0, 1) := by decide +kernel
theorem dX11_wide_26 : decode cX11_wide 26 = .ok (.getfield 40, 3) := by decide +kernel
theorem dX11_wide_29 : decode cX11_wide 29 = .ok (.iload_n 1, 1) := by decide +kernel
theorem dX11_wide_30 : decode cX11_wide 30 = .ok (.aaload, 1) := by decide +kernel
theorem dX11_wide_31 : decode cX11_wide 31 = .ok (.lload_n 2, 1) := by decide +kernel
theorem dX11_wide_32 : decode cX11_wide 32 = .ok (.invokevirtual 356, 3) := by decide +kernel
theorem dX11_wide_35 : decode cX11_wide 35 = .ok (.ifCond .eq 7, 3) := by decide +kernel
theorem dX11_wide_38 : decode cX11_wide 38 = .ok (.iconst 0, 1) := by decide +kernel
theorem dX11_wide_39 : decode cX11_wide 39 = .ok (.goto 4, 3) := by decide +kernel
theorem dX11_wide_42 : decode cX11_wide 42 = .ok (.iconst 2, 1) := by decide +kernel
theorem dX11_wide_43 : decode cX11_wide 43 = .ok (.putfield 118, 3) := by decide +kernel
theorem dX11_wide_46 : decode cX11_wide 46 = .ok (.aload_n 0, 1) := by decide +kernel
theorem dX11_wide_47 : decode cX11_wide 47 = .ok (.getfield 118, 3) := by decide +kernel
theorem dX11_wide_50 : decode cX11_wide 50 = .ok (.ifCond .ne 11, 3) := by decide +kernel
theorem dX11_wide_53 : decode cX11_wide 53 = .ok (.aload_n 0, 1) := by decide +kernel
theorem dX11_wide_54 : decode cX11_wide 54 = .ok (.iload_n 1, 1) := by decide +kernel
theorem dX11_wide_55 : decode cX11_wide 55 = .ok (.invokevirtual 244, 3) := by decide +kernel
theorem dX11_wide_58 : decode cX11_wide 58 = .ok (.ifCond .ne 5, 3) := by decide +kernel
theorem dX11_wide_61 : decode cX11_wide 61 = .ok (.iconst (-1), 1) := by decide +kernel
theorem dX11_wide_62 : decode cX11_wide 62 = .ok (.ireturn, 1) := by decide +kernel
theorem dX11_wide_63 : decode cX11_wide 63 = .ok (.aload_n 0, 1) := by decide +kernel
theorem dX11_wide_64 : decode cX11_wide 64 = .ok (.getfield 95, 3) := by decide +kernel
theorem dX11_wide_67 : decode cX11_wide 67 = .ok (.aload_n 0, 1) := by decide +kernel
theorem dX11_wide_68 : decode cX11_wide 68 = .ok (.getfield 40, 3) := by decide +kernel
theorem dX11_wide_71 : decode cX11_wide 71 = .ok (.iload_n 1, 1) := by decide +kernel
theorem dX11_wide_72 : decode cX11_wide 72 = .ok (.aaload, 1) := by decide +kernel
theorem dX11_wide_73 : decode cX11_wide 73 = .ok (.invokevirtual 330, 3) := by decide +kernel
theorem dX11_wide_76 : decode cX11_wide 76 = .ok (.aload_n 0, 1) := by decide +kernel
theorem dX11_wide_77 : decode cX11_wide 77 = .ok (.getfield 95, 3) := by decide +kernel
theorem dX11_wide_80 : decode cX11_wide 80 = .ok (.lload_n 2, 1) := by decide +kernel
theorem dX11_wide_81 : decode cX11_wide 81 = .ok (.aload_n 0, 1) := by decide +kernel
theorem dX11_wide_82 : decode cX11_wide 82 = .ok (.getfield 95, 3) := by decide +kernel
theorem dX11_wide_85 : decode cX11_wide 85 = .ok (.aload_n 0, 1) := by decide +kernel
theorem dX11_wide_86 : decode cX11_wide 86 = .ok (.getfield 57, 3) := by decide +kernel
theorem dX11_wide_89 : decode cX11_wide 89 = .ok (.iconst 0, 1) := by decide +kernel
theorem dX11_wide_90 : decode cX11_wide 90 = .ok (.iaload, 1) := by decide +kernel
theorem dX11_wide_91 : decode cX11_wide 91 = .ok (.invokevirtual 334, 3) := by decide +kernel
theorem dX11_wide_94 : decode cX11_wide 94 = .ok (.aload_n 0, 1) := by decide +kernel
theorem dX11_wide_95 : decode cX11_wide 95 = .ok (.getfield 57, 3) := by decide +kernel
theorem dX11_wide_98 : decode cX11_wide 98 = .ok (.iconst 1, 1) := by decide +kernel
theorem dX11_wide_99 : decode cX11_wide 99 = .ok (.iaload, 1) := by decide +kernel
theorem dX11_wide_100 : decode cX11_wide 100 = .ok (.invokevirtual 360, 3) := by decide +kernel
theorem dX11_wide_103 : decode cX11_wide 103 = .ok (.ifCond .eq 7, 3) := by decide +kernel
theorem dX11_wide_106 : decode cX11_wide 106 = .ok (.iconst 1, 1) := by decide +kernel
theorem dX11_wide_107 : decode cX11_wide 107 = .ok (.goto 4, 3) := by decide +kernel
theorem dX11_wide_110 : decode cX11_wide 110 = .ok (.iconst 0, 1) := by decide +kernel
theorem dX11_wide_111 : decode cX11_wide 111 = .ok (.ireturn, 1) := by decide +kernel
theorem dX11_least_0 : decode cX11_least 0 = .ok (.aload_n 0, 1) := by decide +kernel
theorem dX11_least_1 : decode cX11_least 1 = .ok (.aload_n 0, 1) := by decide +kernel
theorem dX11_least_2 : decode cX11_least 2 = .ok (.iload_n 1, 1) := by decide +kernel
theorem dX11_least_3 : decode cX11_least 3 = .ok (.invokevirtual 244, 3) := by decide +kernel
theorem dX11_least_6 : decode cX11_least 6 = .ok (.ifCond .ne 7, 3) := by decide +kernel
theorem dX11_least_9 : decode cX11_least 9 = .ok (.iconst 1, 1) := by decide +kernel
theorem dX11_least_10 : decode cX11_least 10 = .ok (.goto 30, 3) := by decide +kernel
theorem dX11_least_13 : decode cX11_least 13 = .ok (.aload_n 0, 1) := by decide +kernel
theorem dX11_least_14 : decode cX11_least 14 = .ok (.iload_n 1, 1) := by decide +kernel
theorem dX11_least_15 : decode cX11_least 15 = .ok (.invokevirtual 327, 3) := by decide +kernel
theorem dX11_least_18 : decode cX11_least 18 = .ok (.ifCond .eq 21, 3) := by decide +kernel
theorem dX11_least_21 : decode cX11_least 21 = .ok (.aload_n 0, 1) := by decide +kernel
theorem dX11_least_22 : decode cX11_least 22 = .ok (.getfield 40, 3) := by decide +kernel
theorem dX11_least_25 : decode cX11_least 25 = .ok (.iload_n 1, 1) := by decide +kernel
theorem dX11_least_26 : decode cX11_least 26 = .ok (.aaload, 1) := by decide +kernel
theorem dX11_least_27 : decode cX11_least 27 = .ok (.invokevirtual 364, 3) := by decide +kernel
theorem dX11_least_30 : decode cX11_least 30 = .ok (.bipush 12, 2) := by decide +kernel
theorem dX11_least_32 : decode cX11_least 32 = .ok (.if_icmp .gt 7, 3) := by decide +kernel
theorem dX11_least_35 : decode cX11_least 35 = .ok (.iconst 0, 1) := by decide +kernel
theorem dX11_least_36 : decode cX11_least 36 = .ok (.goto 4, 3) := by decide +kernel
theorem dX11_least_39 : decode cX11_least 39 = .ok (.iconst 5, 1) := by decide +kernel
theorem dX11_least_40 : decode cX11_least 40 = .ok (.putfield 118, 3) := by decide +kernel
theorem dX11_least_43 : decode cX11_least 43 = .ok (.aload_n 0, 1) := by decide +kernel
theorem dX11_least_44 : decode cX11_least 44 = .ok (.getfield 118, 3) := by decide +kernel
theorem dX11_least_47 : decode cX11_least 47 = .ok (.ifCond .ne 11, 3) := by decide +kernel
theorem dX11_least_50 : decode cX11_least 50 = .ok (.aload_n 0, 1) := by decide +kernel
theorem dX11_least_51 : decode cX11_least 51 = .ok (.iload_n 1, 1) := by decide +kernel
theorem dX11_least_52 : decode cX11_least 52 = .ok (.invokevirtual 244, 3) := by decide +kernel
theorem dX11_least_55 : decode cX11_least 55 = .ok (.ifCond .ne 6, 3) := by decide +kernel
theorem dX11_least_58 : decode cX11_least 58 = .ok (.bipush (-3), 2) := by decide +kernel
theorem dX11_least_60 : decode cX11_least 60 = .ok (.ireturn, 1) := by decide +kernel
theorem dX11_least_61 : decode cX11_least 61 = .ok (.aload_n 0, 1) := by decide +kernel
theorem dX11_least_62 : decode cX11_least 62 = .ok (.getfield 95, 3) := by decide +kernel
theorem dX11_least_65 : decode cX11_least 65 = .ok (.aload_n 0, 1) := by decide +kernel
theorem dX11_least_66 : decode cX11_least 66 = .ok (.getfield 40, 3) := by decide +kernel
theorem dX11_least_69 : decode cX11_least 69 = .ok (.iload_n 1, 1) := by decide +kernel
theorem dX11_least_70 : decode cX11_least 70 = .ok (.aaload, 1) := by decide +kernel
theorem dX11_least_71 : decode cX11_least 71 = .ok (.invokevirtual 330, 3) := by decide +kernel
theorem dX11_least_74 : decode cX11_least 74 = .ok (.aload_n 0, 1) := by decide +kernel
theorem dX11_least_75 : decode cX11_least 75 = .ok (.getfield 95, 3) := by decide +kernel
theorem dX11_least_78 : decode cX11_least 78 = .ok (.aload_n 0, 1) := by decide +kernel
theorem dX11_least_79 : decode cX11_least 79 = .ok (.getfield 95, 3) := by decide +kernel
theorem dX11_least_82 : decode cX11_least 82 = .ok (.aload_n 0, 1) := by decide +kernel
theorem dX11_least_83 : decode cX11_least 83 = .ok (.getfield 57, 3) := by decide +kernel
theorem dX11_least_86 : decode cX11_least 86 = .ok (.iconst 0, 1) := by decide +kernel
theorem dX11_least_87 : decode cX11_least 87 = .ok (.iaload, 1) := by decide +kernel
theorem dX11_least_88 : decode cX11_least 88 = .ok (.invokevirtual 334, 3) := by decide +kernel
theorem dX11_least_91 : decode cX11_least 91 = .ok (.aload_n 0, 1) := by decide +kernel
theorem dX11_least_92 : decode cX11_least 92 = .ok (.getfield 57, 3) := by decide +kernel
theorem dX11_least_95 : decode cX11_least 95 = .ok (.iconst 1, 1) := by decide +kernel
theorem dX11_least_96 : decode cX11_least 96 = .ok (.iaload, 1) := by decide +kernel
theorem dX11_least_97 : decode cX11_least 97 = .ok (.invokevirtual 367, 3) := by decide +kernel
theorem dX11_least_100 : decode cX11_least 100 = .ok (.ireturn, 1) := by decide +kernel
theorem dX11_differing_0 : decode cX11_differing 0 = .ok (.aload_n 0, 1) := by decide +kernel
theorem dX11_differing_1 : decode cX11_differing 1 = .ok (.aload_n 0, 1) := by decide +kernel
theorem dX11_differing_2 : decode cX11_differing 2 = .ok (.iload_n 1, 1) := by decide +kernel
theorem dX11_differing_3 : decode cX11_differing 3 = .ok (.invokevirtual 244, 3) := by decide +kernel
theorem dX11_differing_6 : decode cX11_differing 6 = .ok (.ifCond .eq 11, 3) := by decide +kernel
theorem dX11_differing_9 : decode cX11_differing 9 = .ok (.aload_n 0, 1) := by decide +kernel
theorem dX11_differing_10 : decode cX11_differing 10 = .ok (.iload_n 2, 1) := by decide +kernel
theorem dX11_differing_11 : decode cX11_differing 11 = .ok (.invokevirtual 244, 3) := by decide +kernel
theorem dX11_differing_14 : decode cX11_differing 14 = .ok (.ifCond .ne 7, 3) := by decide +kernel
theorem dX11_differing_17 : decode cX11_differing 17 = .ok (.iconst 1, 1) := by decide +kernel
theorem dX11_differing_18 : decode cX11_differing 18 = .ok (.goto 26, 3) := by decide +kernel
theorem dX11_differing_21 : decode cX11_differing 21 = .ok (.aload_n 0, 1) := by decide +kernel
theorem dX11_differing_22 : decode cX11_differing 22 = .ok (.getfield 40, 3) := by decide +kernel
theorem dX11_differing_25 : decode cX11_differing 25 = .ok (.iload_n 1, 1) := by decide +kernel
theorem dX11_differing_26 : decode cX11_differing 26 = .ok (.aaload, 1) := by decide +kernel
theorem dX11_differing_27 : decode cX11_differing 27 = .ok (.aload_n 0, 1) := by decide +kernel
theorem dX11_differing_28 : decode cX11_differing 28 = .ok (.getfield 40, 3) := by decide +kernel
theorem dX11_differing_31 : decode cX11_differing 31 = .ok (.iload_n 2, 1) := by decide +kernel
theorem dX11_differing_32 : decode cX11_differing 32 = .ok (.aaload, 1) := by decide +kernel
theorem dX11_differing_33 : decode cX11_differing 33 = .ok (.invokevirtual 371, 3) := by decide +kernel
theorem dX11_differing_36 : decode cX11_differing 36 = .ok (.ifCond .eq 7, 3) := by decide +kernel
theorem dX11_differing_39 : decode cX11_differing 39 = .ok (.iconst 0, 1) := by decide +kernel
theorem dX11_differing_40 : decode cX11_differing 40 = .ok (.goto 4, 3) := by decide +kernel
theorem dX11_differing_43 : decode cX11_differing 43 = .ok (.iconst 5, 1) := by decide +kernel
theorem dX11_differing_44 : decode cX11_differing 44 = .ok (.putfield 118, 3) := by decide +kernel
theorem dX11_differing_47 : decode cX11_differing 47 = .ok (.aload_n 0, 1) := by decide +kernel
theorem dX11_differing_48 : decode cX11_differing 48 = .ok (.getfield 118, 3) := by decide +kernel
theorem dX11_differing_51 : decode cX11_differing 51 = .ok (.ifCond .ne 19, 3) := by decide +kernel
theorem dX11_differing_54 : decode cX11_differing 54 = .ok (.aload_n 0, 1) := by decide +kernel
theorem dX11_differing_55 : decode cX11_differing 55 = .ok (.iload_n 1, 1) := by decide +kernel
theorem dX11_differing_56 : decode cX11_differing 56 = .ok (.invokevirtual 244, 3) := by decide +kernel
theorem dX11_differing_59 : decode cX11_differing 59 = .ok (.ifCond .eq 11, 3) := by decide +kernel
theorem dX11_differing_62 : decode cX11_differing 62 = .ok (.aload_n 0, 1) := by decide +kernel
theorem dX11_differing_63 : decode cX11_differing 63 = .ok (.iload_n 2, 1) := by decide +kernel
theorem dX11_differing_64 : decode cX11_differing 64 = .ok (.invokevirtual 244, 3) := by decide +kernel
theorem dX11_differing_67 : decode cX11_differing 67 = .ok (.ifCond .ne 5, 3) := by decide +kernel
theorem dX11_differing_70 : decode cX11_differing 70 = .ok (.iconst (-1), 1) := by decide +kernel
theorem dX11_differing_71 : decode cX11_differing 71 = .ok (.ireturn, 1) := by decide +kernel
theorem dX11_differing_72 : decode cX11_differing 72 = .ok (.aload_n 0, 1) := by decide +kernel
theorem dX11_differing_73 : decode cX11_differing 73 = .ok (.getfield 95, 3) := by decide +kernel
theorem dX11_differing_76 : decode cX11_differing 76 = .ok (.aload_n 0, 1) := by decide +kernel
theorem dX11_differing_77 : decode cX11_differing 77 = .ok (.getfield 40, 3) := by decide +kernel
theorem dX11_differing_80 : decode cX11_differing 80 = .ok (.iload_n 1, 1) := by decide +kernel
theorem dX11_differing_81 : decode cX11_differing 81 = .ok (.aaload, 1) := by decide +kernel
theorem dX11_differing_82 : decode cX11_differing 82 = .ok (.aload_n 0, 1) := by decide +kernel
theorem dX11_differing_83 : decode cX11_differing 83 = .ok (.getfield 40, 3) := by decide +kernel
theorem dX11_differing_86 : decode cX11_differing 86 = .ok (.iload_n 2, 1) := by decide +kernel
theorem dX11_differing_87 : decode cX11_differing 87 = .ok (.aaload, 1) := by decide +kernel
theorem dX11_differing_88 : decode cX11_differing 88 = .ok (.aload_n 0, 1) := by decide +kernel
theorem dX11_differing_89 : decode cX11_differing 89 = .ok (.getfield 57, 3) := by decide +kernel
theorem dX11_differing_92 : decode cX11_differing 92 = .ok (.iconst 0, 1) := by decide +kernel
theorem dX11_differing_93 : decode cX11_differing 93 = .ok (.iaload, 1) := by decide +kernel
theorem dX11_differing_94 : decode cX11_differing 94 = .ok (.invokevirtual 375, 3) := by decide +kernel
theorem dX11_differing_97 : decode cX11_differing 97 = .ok (.ireturn, 1) := by decide +kernel
theorem dX11_lot_0 : decode cX11_lot 0 = .ok (.aload_n 0, 1) := by decide +kernel
theorem dX11_lot_1 : decode cX11_lot 1 = .ok (.aload_n 0, 1) := by decide +kernel
theorem dX11_lot_2 : decode cX11_lot 2 = .ok (.invokevirtual 151, 3) := by decide +kernel
theorem dX11_lot_5 : decode cX11_lot 5 = .ok (.ifCond .ne 7, 3) := by decide +kernel
theorem dX11_lot_8 : decode cX11_lot 8 = .ok (.iconst 1, 1) := by decide +kernel
theorem dX11_lot_9 : decode cX11_lot 9 = .ok (.goto 33, 3) := by decide +kernel
theorem dX11_lot_12 : decode cX11_lot 12 = .ok (.iload_n 1, 1) := by decide +kernel
theorem dX11_lot_13 : decode cX11_lot 13 = .ok (.bipush (-9), 2) := by decide +kernel
theorem dX11_lot_15 : decode cX11_lot 15 = .ok (.bipush 9, 2) := by decide +kernel
theorem dX11_lot_17 : decode cX11_lot 17 = .ok (.invokestatic 188, 3) := by decide +kernel
theorem dX11_lot_20 : decode cX11_lot 20 = .ok (.ifCond .ne 7, 3) := by decide +kernel
theorem dX11_lot_23 : decode cX11_lot 23 = .ok (.iconst 2, 1) := by decide +kernel
theorem dX11_lot_24 : decode cX11_lot 24 = .ok (.goto 18, 3) := by decide +kernel
theorem dX11_lot_27 : decode cX11_lot 27 = .ok (.aload_n 0, 1) := by decide +kernel
theorem dX11_lot_28 : decode cX11_lot 28 = .ok (.getfield 102, 3) := by decide +kernel
theorem dX11_lot_31 : decode cX11_lot 31 = .ok (.invokevirtual 379, 3) := by decide +kernel
theorem dX11_lot_34 : decode cX11_lot 34 = .ok (.ifCond .eq 7, 3) := by decide +kernel
theorem dX11_lot_37 : decode cX11_lot 37 = .ok (.iconst 3, 1) := by decide +kernel
theorem dX11_lot_38 : decode cX11_lot 38 = .ok (.goto 4, 3) := by decide +kernel
theorem dX11_lot_41 : decode cX11_lot 41 = .ok (.iconst 0, 1) := by decide +kernel
theorem dX11_lot_42 : decode cX11_lot 42 = .ok (.putfield 118, 3) := by decide +kernel
theorem dX11_lot_45 : decode cX11_lot 45 = .ok (.aload_n 0, 1) := by decide +kernel
theorem dX11_lot_46 : decode cX11_lot 46 = .ok (.getfield 118, 3) := by decide +kernel
theorem dX11_lot_49 : decode cX11_lot 49 = .ok (.ifCond .ne 14, 3) := by decide +kernel
theorem dX11_lot_52 : decode cX11_lot 52 = .ok (.aload_n 0, 1) := by decide +kernel
theorem dX11_lot_53 : decode cX11_lot 53 = .ok (.getfield 102, 3) := by decide +kernel
theorem dX11_lot_56 : decode cX11_lot 56 = .ok (.iload_n 1, 1) := by decide +kernel
theorem dX11_lot_57 : decode cX11_lot 57 = .ok (.invokevirtual 380, 3) := by decide +kernel
theorem dX11_lot_60 : decode cX11_lot 60 = .ok (.goto 4, 3) := by decide +kernel
theorem dX11_lot_63 : decode cX11_lot 63 = .ok (.iconst (-1), 1) := by decide +kernel
theorem dX11_lot_64 : decode cX11_lot 64 = .ok (.ireturn, 1) := by decide +kernel
theorem dX11_noise_0 : decode cX11_noise 0 = .ok (.aload_n 0, 1) := by decide +kernel
theorem dX11_noise_1 : decode cX11_noise 1 = .ok (.aload_n 0, 1) := by decide +kernel
theorem dX11_noise_2 : decode cX11_noise 2 = .ok (.iload_n 1, 1) := by decide +kernel
theorem dX11_noise_3 : decode cX11_noise 3 = .ok (.iload_n 2, 1) := by decide +kernel
theorem dX11_noise_4 : decode cX11_noise 4 = .ok (.iload_n 3, 1) := by decide +kernel
theorem dX11_noise_5 : decode cX11_noise 5 = .ok (.invokevirtual 250, 3) := by decide +kernel
theorem dX11_noise_8 : decode cX11_noise 8 = .ok (.ifCond .eq 7, 3) := by decide +kernel
theorem dX11_noise_11 : decode cX11_noise 11 = .ok (.iconst 0, 1) := by decide +kernel
theorem dX11_noise_12 : decode cX11_noise 12 = .ok (.goto 4, 3) := by decide +kernel
theorem dX11_noise_15 : decode cX11_noise 15 = .ok (.iconst 1, 1) := by decide +kernel
theorem dX11_noise_16 : decode cX11_noise 16 = .ok (.putfield 118, 3) := by decide +kernel
theorem dX11_noise_19 : decode cX11_noise 19 = .ok (.aload_n 0, 1) := by decide +kernel
theorem dX11_noise_20 : decode cX11_noise 20 = .ok (.getfield 118, 3) := by decide +kernel
theorem dX11_noise_23 : decode cX11_noise 23 = .ok (.ifCond .ne 11, 3) := by decide +kernel
theorem dX11_noise_26 : decode cX11_noise 26 = .ok (.aload_n 0, 1) := by decide +kernel
theorem dX11_noise_27 : decode cX11_noise 27 = .ok (.iload_n 1, 1) := by decide +kernel
theorem dX11_noise_28 : decode cX11_noise 28 = .ok (.invokevirtual 244, 3) := by decide +kernel
theorem dX11_noise_31 : decode cX11_noise 31 = .ok (.ifCond .ne 7, 3) := by decide +kernel
theorem dX11_noise_34 : decode cX11_noise 34 = .ok (.ldc2_w 252, 3) := by decide +kernel
theorem dX11_noise_37 : decode cX11_noise 37 = .ok (.lreturn, 1) := by decide +kernel
theorem dX11_noise_38 : decode cX11_noise 38 = .ok (.aload_n 0, 1) := by decide +kernel
theorem dX11_noise_39 : decode cX11_noise 39 = .ok (.getfield 40, 3) := by decide +kernel
theorem dX11_noise_42 : decode cX11_noise 42 = .ok (.iload_n 1, 1) := by decide +kernel
theorem dX11_noise_43 : decode cX11_noise 43 = .ok (.aaload, 1) := by decide +kernel
theorem dX11_noise_44 : decode cX11_noise 44 = .ok (.astore 4, 2) := by decide +kernel
theorem dX11_noise_46 : decode cX11_noise 46 = .ok (.aload 4, 2) := by decide +kernel
theorem dX11_noise_48 : decode cX11_noise 48 = .ok (.iload_n 2, 1) := by decide +kernel
theorem dX11_noise_49 : decode cX11_noise 49 = .ok (.iload_n 3, 1) := by decide +kernel
theorem dX11_noise_50 : decode cX11_noise 50 = .ok (.invokevirtual 254, 3) := by decide +kernel
theorem dX11_noise_53 : decode cX11_noise 53 = .ok (.istore 5, 2) := by decide +kernel
theorem dX11_noise_55 : decode cX11_noise 55 = .ok (.aload_n 0, 1) := by decide +kernel
theorem dX11_noise_56 : decode cX11_noise 56 = .ok (.getfield 72, 3) := by decide +kernel
theorem dX11_noise_59 : decode cX11_noise 59 = .ok (.aload 4, 2) := by decide +kernel
theorem dX11_noise_61 : decode cX11_noise 61 = .ok (.iload 5, 2) := by decide +kernel
theorem dX11_noise_63 : decode cX11_noise 63 = .ok (.aload_n 0, 1) := by decide +kernel
theorem dX11_noise_64 : decode cX11_noise 64 = .ok (.getfield 34, 3) := by decide +kernel
theorem dX11_noise_67 : decode cX11_noise 67 = .ok (.getfield 201, 3) := by decide +kernel
theorem dX11_noise_70 : decode cX11_noise 70 = .ok (.iconst 0, 1) := by decide +kernel
theorem dX11_noise_71 : decode cX11_noise 71 = .ok (.invokevirtual 257, 3) := by decide +kernel
theorem dX11_noise_74 : decode cX11_noise 74 = .ok (.lstore 6, 2) := by decide +kernel
theorem dX11_noise_76 : decode cX11_noise 76 = .ok (.aload 4, 2) := by decide +kernel
theorem dX11_noise_78 : decode cX11_noise 78 = .ok (.iload 5, 2) := by decide +kernel
theorem dX11_noise_80 : decode cX11_noise 80 = .ok (.lload 6, 2) := by decide +kernel
theorem dX11_noise_82 : decode cX11_noise 82 = .ok (.invokevirtual 382, 3) := by decide +kernel
theorem dX11_noise_85 : decode cX11_noise 85 = .ok (.ifCond .eq 11, 3) := by decide +kernel
theorem dX11_noise_88 : decode cX11_noise 88 = .ok (.aload 4, 2) := by decide +kernel
theorem dX11_noise_90 : decode cX11_noise 90 = .ok (.iload 5, 2) := by decide +kernel
theorem dX11_noise_92 : decode cX11_noise 92 = .ok (.invokevirtual 385, 3) := by decide +kernel
theorem dX11_noise_95 : decode cX11_noise 95 = .ok (.lreturn, 1) := by decide +kernel
theorem dX11_noise_96 : decode cX11_noise 96 = .ok (.aload_n 0, 1) := by decide +kernel
theorem dX11_noise_97 : decode cX11_noise 97 = .ok (.getfield 102, 3) := by decide +kernel
theorem dX11_noise_100 : decode cX11_noise 100 = .ok (.getfield 388, 3) := by decide +kernel
theorem dX11_noise_103 : decode cX11_noise 103 = .ok (.ifCond .eq 12, 3) := by decide +kernel
theorem dX11_noise_106 : decode cX11_noise 106 = .ok (.aload_n 0, 1) := by decide +kernel
theorem dX11_noise_107 : decode cX11_noise 107 = .ok (.getfield 57, 3) := by decide +kernel
theorem dX11_noise_110 : decode cX11_noise 110 = .ok (.iconst 3, 1) := by decide +kernel
theorem dX11_noise_111 : decode cX11_noise 111 = .ok (.iaload, 1) := by decide +kernel
theorem dX11_noise_112 : decode cX11_noise 112 = .ok (.ifCond .ne 12, 3) := by decide +kernel
theorem dX11_noise_115 : decode cX11_noise 115 = .ok (.aload_n 0, 1) := by decide +kernel
theorem dX11_noise_116 : decode cX11_noise 116 = .ok (.iconst 5, 1) := by decide +kernel
theorem dX11_noise_117 : decode cX11_noise 117 = .ok (.putfield 118, 3) := by decide +kernel
theorem dX11_noise_120 : decode cX11_noise 120 = .ok (.ldc2_w 252, 3) := by decide +kernel
theorem dX11_noise_123 : decode cX11_noise 123 = .ok (.lreturn, 1) := by decide +kernel
theorem dX11_noise_124 : decode cX11_noise 124 = .ok (.aload_n 0, 1) := by decide +kernel
theorem dX11_noise_125 : decode cX11_noise 125 = .ok (.getfield 57, 3) := by decide +kernel
theorem dX11_noise_128 : decode cX11_noise 128 = .ok (.iconst 3, 1) := by decide +kernel
theorem dX11_noise_129 : decode cX11_noise 129 = .ok (.dup2, 1) := by decide +kernel
theorem dX11_noise_130 : decode cX11_noise 130 = .ok (.iaload, 1) := by decide +kernel
theorem dX11_noise_131 : decode cX11_noise 131 = .ok (.iconst 1, 1) := by decide +kernel
theorem dX11_noise_132 : decode cX11_noise 132 = .ok (.isub, 1) := by decide +kernel
theorem dX11_noise_133 : decode cX11_noise 133 = .ok (.iastore, 1) := by decide +kernel
theorem dX11_noise_134 : decode cX11_noise 134 = .ok (.lconst 0, 1) := by decide +kernel
theorem dX11_noise_135 : decode cX11_noise 135 = .ok (.lload 6, 2) := by decide +kernel
theorem dX11_noise_137 : decode cX11_noise 137 = .ok (.aload_n 0, 1) := by decide +kernel
theorem dX11_noise_138 : decode cX11_noise 138 = .ok (.getfield 102, 3) := by decide +kernel
theorem dX11_noise_141 : decode cX11_noise 141 = .ok (.invokevirtual 391, 3) := by decide +kernel
theorem dX11_noise_144 : decode cX11_noise 144 = .ok (.i2l, 1) := by decide +kernel
theorem dX11_noise_145 : decode cX11_noise 145 = .ok (.ladd, 1) := by decide +kernel
theorem dX11_noise_146 : decode cX11_noise 146 = .ok (.invokestatic 261, 3) := by decide +kernel
theorem dX11_noise_149 : decode cX11_noise 149 = .ok (.lstore 8, 2) := by decide +kernel
theorem dX11_noise_151 : decode cX11_noise 151 = .ok (.aload 4, 2) := by decide +kernel
theorem dX11_noise_153 : decode cX11_noise 153 = .ok (.iload 5, 2) := by decide +kernel
theorem dX11_noise_155 : decode cX11_noise 155 = .ok (.lload 6, 2) := by decide +kernel
theorem dX11_noise_157 : decode cX11_noise 157 = .ok (.lload 8, 2) := by decide +kernel
theorem dX11_noise_159 : decode cX11_noise 159 = .ok (.invokevirtual 394, 3) := by decide +kernel
theorem dX11_noise_162 : decode cX11_noise 162 = .ok (.lload 8, 2) := by decide +kernel
theorem dX11_noise_164 : decode cX11_noise 164 = .ok (.lreturn, 1) := by decide +kernel
theorem dX11_led_0 : decode cX11_led 0 = .ok (.aload_n 0, 1) := by decide +kernel
theorem dX11_led_1 : decode cX11_led 1 = .ok (.iload_n 1, 1) := by decide +kernel
theorem dX11_led_2 : decode cX11_led 2 = .ok (.iload_n 2, 1) := by decide +kernel
theorem dX11_led_3 : decode cX11_led 3 = .ok (.iload_n 3, 1) := by decide +kernel
theorem dX11_led_4 : decode cX11_led 4 = .ok (.invokevirtual 250, 3) := by decide +kernel
theorem dX11_led_7 : decode cX11_led 7 = .ok (.ifCond .eq 32, 3) := by decide +kernel
theorem dX11_led_10 : decode cX11_led 10 = .ok (.aload_n 0, 1) := by decide +kernel
theorem dX11_led_11 : decode cX11_led 11 = .ok (.getfield 72, 3) := by decide +kernel
theorem dX11_led_14 : decode cX11_led 14 = .ok (.aload_n 0, 1) := by decide +kernel
theorem dX11_led_15 : decode cX11_led 15 = .ok (.getfield 40, 3) := by decide +kernel
theorem dX11_led_18 : decode cX11_led 18 = .ok (.iload_n 1, 1) := by decide +kernel
theorem dX11_led_19 : decode cX11_led 19 = .ok (.aaload, 1) := by decide +kernel
theorem dX11_led_20 : decode cX11_led 20 = .ok (.aload_n 0, 1) := by decide +kernel
theorem dX11_led_21 : decode cX11_led 21 = .ok (.getfield 40, 3) := by decide +kernel
theorem dX11_led_24 : decode cX11_led 24 = .ok (.iload_n 1, 1) := by decide +kernel
theorem dX11_led_25 : decode cX11_led 25 = .ok (.aaload, 1) := by decide +kernel
theorem dX11_led_26 : decode cX11_led 26 = .ok (.iload_n 2, 1) := by decide +kernel
theorem dX11_led_27 : decode cX11_led 27 = .ok (.iload_n 3, 1) := by decide +kernel
theorem dX11_led_28 : decode cX11_led 28 = .ok (.invokevirtual 254, 3) := by decide +kernel
theorem dX11_led_31 : decode cX11_led 31 = .ok (.iload 4, 2) := by decide +kernel
theorem dX11_led_33 : decode cX11_led 33 = .ok (.invokevirtual 398, 3) := by decide +kernel
theorem dX11_led_36 : decode cX11_led 36 = .ok (.goto 4, 3) := by decide +kernel
theorem dX11_led_39 : decode cX11_led 39 = .ok (.iconst (-1), 1) := by decide +kernel
theorem dX11_led_40 : decode cX11_led 40 = .ok (.istore 5, 2) := by decide +kernel
theorem dX11_led_42 : decode cX11_led 42 = .ok (.iload 5, 2) := by decide +kernel
theorem dX11_led_44 : decode cX11_led 44 = .ok (.iconst (-1), 1) := by decide +kernel
theorem dX11_led_45 : decode cX11_led 45 = .ok (.if_icmp .ne 11, 3) := by decide +kernel
theorem dX11_led_48 : decode cX11_led 48 = .ok (.new 402, 3) := by decide +kernel
theorem dX11_led_51 : decode cX11_led 51 = .ok (.dup, 1) := by decide +kernel
theorem dX11_led_52 : decode cX11_led 52 = .ok (.invokespecial 404, 3) := by decide +kernel
theorem dX11_led_55 : decode cX11_led 55 = .ok (.athrow, 1) := by decide +kernel
theorem dX11_led_56 : decode cX11_led 56 = .ok (.iload 5, 2) := by decide +kernel
theorem dX11_led_58 : decode cX11_led 58 = .ok (.ireturn, 1) := by decide +kernel
theorem dX11_count_0 : decode cX11_count 0 = .ok (.iload_n 1, 1) := by decide +kernel
theorem dX11_count_1 : decode cX11_count 1 = .ok (.tableswitch 160 0 10 #[59, 70, 81, 89, 94, 102, 110, 125, 140, 148, 155], 59) := by decide +kernel
theorem dX11_count_60 : decode cX11_count 60 = .ok (.aload_n 0, 1) := by decide +kernel
theorem dX11_count_61 : decode cX11_count 61 = .ok (.getfield 34, 3) := by decide +kernel
theorem dX11_count_64 : decode cX11_count 64 = .ok (.getfield 125, 3) := by decide +kernel
theorem dX11_count_67 : decode cX11_count 67 = .ok (.getfield 134, 3) := by decide +kernel
theorem dX11_count_70 : decode cX11_count 70 = .ok (.ireturn, 1) := by decide +kernel
theorem dX11_count_71 : decode cX11_count 71 = .ok (.aload_n 0, 1) := by decide +kernel
theorem dX11_count_72 : decode cX11_count 72 = .ok (.getfield 34, 3) := by decide +kernel
theorem dX11_count_75 : decode cX11_count 75 = .ok (.getfield 125, 3) := by decide +kernel
theorem dX11_count_78 : decode cX11_count 78 = .ok (.getfield 405, 3) := by decide +kernel
theorem dX11_count_81 : decode cX11_count 81 = .ok (.ireturn, 1) := by decide +kernel
theorem dX11_count_82 : decode cX11_count 82 = .ok (.aload_n 0, 1) := by decide +kernel
theorem dX11_count_83 : decode cX11_count 83 = .ok (.getfield 34, 3) := by decide +kernel
theorem dX11_count_86 : decode cX11_count 86 = .ok (.getfield 408, 3) := by decide +kernel
theorem dX11_count_89 : decode cX11_count 89 = .ok (.ireturn, 1) := by decide +kernel
theorem dX11_count_90 : decode cX11_count 90 = .ok (.aload_n 0, 1) := by decide +kernel
theorem dX11_count_91 : decode cX11_count 91 = .ok (.getfield 137, 3) := by decide +kernel
theorem dX11_count_94 : decode cX11_count 94 = .ok (.ireturn, 1) := by decide +kernel
theorem dX11_count_95 : decode cX11_count 95 = .ok (.aload_n 0, 1) := by decide +kernel
theorem dX11_count_96 : decode cX11_count 96 = .ok (.getfield 34, 3) := by decide +kernel
theorem dX11_count_99 : decode cX11_count 99 = .ok (.getfield 201, 3) := by decide +kernel
theorem dX11_count_102 : decode cX11_count 102 = .ok (.ireturn, 1) := by decide +kernel
theorem dX11_count_103 : decode cX11_count 103 = .ok (.aload_n 0, 1) := by decide +kernel
theorem dX11_count_104 : decode cX11_count 104 = .ok (.getfield 34, 3) := by decide +kernel
theorem dX11_count_107 : decode cX11_count 107 = .ok (.invokevirtual 411, 3) := by decide +kernel
theorem dX11_count_110 : decode cX11_count 110 = .ok (.ireturn, 1) := by decide +kernel
theorem dX11_count_111 : decode cX11_count 111 = .ok (.aload_n 0, 1) := by decide +kernel
theorem dX11_count_112 : decode cX11_count 112 = .ok (.getfield 34, 3) := by decide +kernel
theorem dX11_count_115 : decode cX11_count 115 = .ok (.aload_n 0, 1) := by decide +kernel
theorem dX11_count_116 : decode cX11_count 116 = .ok (.getfield 34, 3) := by decide +kernel
theorem dX11_count_119 : decode cX11_count 119 = .ok (.getfield 222, 3) := by decide +kernel
theorem dX11_count_122 : decode cX11_count 122 = .ok (.invokevirtual 414, 3) := by decide +kernel
theorem dX11_count_125 : decode cX11_count 125 = .ok (.ireturn, 1) := by decide +kernel
theorem dX11_count_126 : decode cX11_count 126 = .ok (.aload_n 0, 1) := by decide +kernel
theorem dX11_count_127 : decode cX11_count 127 = .ok (.getfield 34, 3) := by decide +kernel
theorem dX11_count_130 : decode cX11_count 130 = .ok (.aload_n 0, 1) := by decide +kernel
theorem dX11_count_131 : decode cX11_count 131 = .ok (.getfield 34, 3) := by decide +kernel
theorem dX11_count_134 : decode cX11_count 134 = .ok (.getfield 225, 3) := by decide +kernel
theorem dX11_count_137 : decode cX11_count 137 = .ok (.invokevirtual 414, 3) := by decide +kernel
theorem dX11_count_140 : decode cX11_count 140 = .ok (.ireturn, 1) := by decide +kernel
theorem dX11_count_141 : decode cX11_count 141 = .ok (.aload_n 0, 1) := by decide +kernel
theorem dX11_count_142 : decode cX11_count 142 = .ok (.getfield 102, 3) := by decide +kernel
theorem dX11_count_145 : decode cX11_count 145 = .ok (.getfield 388, 3) := by decide +kernel
theorem dX11_count_148 : decode cX11_count 148 = .ok (.ireturn, 1) := by decide +kernel
theorem dX11_count_149 : decode cX11_count 149 = .ok (.aload_n 0, 1) := by decide +kernel
theorem dX11_count_150 : decode cX11_count 150 = .ok (.getfield 57, 3) := by decide +kernel
theorem dX11_count_153 : decode cX11_count 153 = .ok (.iconst 3, 1) := by decide +kernel
theorem dX11_count_154 : decode cX11_count 154 = .ok (.iaload, 1) := by decide +kernel
theorem dX11_count_155 : decode cX11_count 155 = .ok (.ireturn, 1) := by decide +kernel
theorem dX11_count_156 : decode cX11_count 156 = .ok (.aload_n 0, 1) := by decide +kernel
theorem dX11_count_157 : decode cX11_count 157 = .ok (.getfield 106, 3) := by decide +kernel
theorem dX11_count_160 : decode cX11_count 160 = .ok (.ireturn, 1) := by decide +kernel
theorem dX11_count_161 : decode cX11_count 161 = .ok (.iconst (-1), 1) := by decide +kernel
theorem dX11_count_162 : decode cX11_count 162 = .ok (.ireturn, 1) := by decide +kernel
theorem dX11_trouble_0 : decode cX11_trouble 0 = .ok (.aload_n 0, 1) := by decide +kernel
theorem dX11_trouble_1 : decode cX11_trouble 1 = .ok (.getfield 118, 3) := by decide +kernel
theorem dX11_trouble_4 : decode cX11_trouble 4 = .ok (.ireturn, 1) := by decide +kernel
theorem dX11_isWithin_0 : decode cX11_isWithin 0 = .ok (.iload_n 0, 1) := by decide +kernel
theorem dX11_isWithin_1 : decode cX11_isWithin 1 = .ok (.iload_n 1, 1) := by decide +kernel
theorem dX11_isWithin_2 : decode cX11_isWithin 2 = .ok (.if_icmp .lt 12, 3) := by decide +kernel
theorem dX11_isWithin_5 : decode cX11_isWithin 5 = .ok (.iload_n 0, 1) := by decide +kernel
theorem dX11_isWithin_6 : decode cX11_isWithin 6 = .ok (.iload_n 2, 1) := by decide +kernel
theorem dX11_isWithin_7 : decode cX11_isWithin 7 = .ok (.if_icmp .gt 7, 3) := by decide +kernel
theorem dX11_isWithin_10 : decode cX11_isWithin 10 = .ok (.iconst 1, 1) := by decide +kernel
theorem dX11_isWithin_11 : decode cX11_isWithin 11 = .ok (.goto 4, 3) := by decide +kernel
theorem dX11_isWithin_14 : decode cX11_isWithin 14 = .ok (.iconst 0, 1) := by decide +kernel
theorem dX11_isWithin_15 : decode cX11_isWithin 15 = .ok (.ireturn, 1) := by decide +kernel
theorem dX11_valueIn_0 : decode cX11_valueIn 0 = .ok (.iload_n 1, 1) := by decide +kernel
theorem dX11_valueIn_1 : decode cX11_valueIn 1 = .ok (.ifCond .lt 15, 3) := by decide +kernel
theorem dX11_valueIn_4 : decode cX11_valueIn 4 = .ok (.iload_n 1, 1) := by decide +kernel
theorem dX11_valueIn_5 : decode cX11_valueIn 5 = .ok (.aload_n 0, 1) := by decide +kernel
theorem dX11_valueIn_6 : decode cX11_valueIn 6 = .ok (.arraylength, 1) := by decide +kernel
theorem dX11_valueIn_7 : decode cX11_valueIn 7 = .ok (.if_icmp .ge 9, 3) := by decide +kernel
theorem dX11_valueIn_10 : decode cX11_valueIn 10 = .ok (.aload_n 0, 1) := by decide +kernel
theorem dX11_valueIn_11 : decode cX11_valueIn 11 = .ok (.iload_n 1, 1) := by decide +kernel
theorem dX11_valueIn_12 : decode cX11_valueIn 12 = .ok (.iaload, 1) := by decide +kernel
theorem dX11_valueIn_13 : decode cX11_valueIn 13 = .ok (.goto 4, 3) := by decide +kernel
theorem dX11_valueIn_16 : decode cX11_valueIn 16 = .ok (.iconst (-1), 1) := by decide +kernel
theorem dX11_valueIn_17 : decode cX11_valueIn 17 = .ok (.ireturn, 1) := by decide +kernel
theorem dX11_isLeftOut_0 : decode cX11_isLeftOut 0 = .ok (.lload_n 1, 1) := by decide +kernel
theorem dX11_isLeftOut_1 : decode cX11_isLeftOut 1 = .ok (.iload_n 0, 1) := by decide +kernel
theorem dX11_isLeftOut_2 : decode cX11_isLeftOut 2 = .ok (.lushr, 1) := by decide +kernel
theorem dX11_isLeftOut_3 : decode cX11_isLeftOut 3 = .ok (.lconst 1, 1) := by decide +kernel
theorem dX11_isLeftOut_4 : decode cX11_isLeftOut 4 = .ok (.land, 1) := by decide +kernel
theorem dX11_isLeftOut_5 : decode cX11_isLeftOut 5 = .ok (.lconst 0, 1) := by decide +kernel
theorem dX11_isLeftOut_6 : decode cX11_isLeftOut 6 = .ok (.lcmp, 1) := by decide +kernel
theorem dX11_isLeftOut_7 : decode cX11_isLeftOut 7 = .ok (.ifCond .eq 7, 3) := by decide +kernel
theorem dX11_isLeftOut_10 : decode cX11_isLeftOut 10 = .ok (.iconst 1, 1) := by decide +kernel
theorem dX11_isLeftOut_11 : decode cX11_isLeftOut 11 = .ok (.goto 4, 3) := by decide +kernel
theorem dX11_isLeftOut_14 : decode cX11_isLeftOut 14 = .ok (.iconst 0, 1) := by decide +kernel
theorem dX11_isLeftOut_15 : decode cX11_isLeftOut 15 = .ok (.ireturn, 1) := by decide +kernel
theorem dX12_init_0 : decode cX12_init 0 = .ok (.aload_n 0, 1) := by decide +kernel
theorem dX12_init_1 : decode cX12_init 1 = .ok (.invokespecial 3, 3) := by decide +kernel
theorem dX12_init_4 : decode cX12_init 4 = .ok (.aload_n 0, 1) := by decide +kernel
theorem dX12_init_5 : decode cX12_init 5 = .ok (.bipush 6, 2) := by decide +kernel
theorem dX12_init_7 : decode cX12_init 7 = .ok (.newarray .long, 2) := by decide +kernel
theorem dX12_init_9 : decode cX12_init 9 = .ok (.putfield 9, 3) := by decide +kernel
theorem dX12_init_12 : decode cX12_init 12 = .ok (.aload_n 0, 1) := by decide +kernel
theorem dX12_init_13 : decode cX12_init 13 = .ok (.bipush 6, 2) := by decide +kernel
theorem dX12_init_15 : decode cX12_init 15 = .ok (.newarray .int, 2) := by decide +kernel
theorem dX12_init_17 : decode cX12_init 17 = .ok (.putfield 15, 3) := by decide +kernel
theorem dX12_init_20 : decode cX12_init 20 = .ok (.aload_n 0, 1) := by decide +kernel
theorem dX12_init_21 : decode cX12_init 21 = .ok (.bipush 6, 2) := by decide +kernel
theorem dX12_init_23 : decode cX12_init 23 = .ok (.newarray .int, 2) := by decide +kernel
theorem dX12_init_25 : decode cX12_init 25 = .ok (.putfield 19, 3) := by decide +kernel
theorem dX12_init_28 : decode cX12_init 28 = .ok (.aload_n 0, 1) := by decide +kernel
theorem dX12_init_29 : decode cX12_init 29 = .ok (.bipush 12, 2) := by decide +kernel
theorem dX12_init_31 : decode cX12_init 31 = .ok (.anewarray 22, 3) := by decide +kernel
theorem dX12_init_34 : decode cX12_init 34 = .ok (.putfield 24, 3) := by decide +kernel
theorem dX12_init_37 : decode cX12_init 37 = .ok (.return_, 1) := by decide +kernel
theorem dX12_fieldOf_0 : decode cX12_fieldOf 0 = .ok (.iconst 0, 1) := by decide +kernel
theorem dX12_fieldOf_1 : decode cX12_fieldOf 1 = .ok (.istore_n 3, 1) := by decide +kernel
theorem dX12_fieldOf_2 : decode cX12_fieldOf 2 = .ok (.iload_n 3, 1) := by decide +kernel
theorem dX12_fieldOf_3 : decode cX12_fieldOf 3 = .ok (.aload_n 0, 1) := by decide +kernel
theorem dX12_fieldOf_4 : decode cX12_fieldOf 4 = .ok (.getfield 28, 3) := by decide +kernel
theorem dX12_fieldOf_7 : decode cX12_fieldOf 7 = .ok (.if_icmp .ge 22, 3) := by decide +kernel
theorem dX12_fieldOf_10 : decode cX12_fieldOf 10 = .ok (.aload_n 0, 1) := by decide +kernel
theorem dX12_fieldOf_11 : decode cX12_fieldOf 11 = .ok (.getfield 9, 3) := by decide +kernel
theorem dX12_fieldOf_14 : decode cX12_fieldOf 14 = .ok (.iload_n 3, 1) := by decide +kernel
theorem dX12_fieldOf_15 : decode cX12_fieldOf 15 = .ok (.laload, 1) := by decide +kernel
theorem dX12_fieldOf_16 : decode cX12_fieldOf 16 = .ok (.lload_n 1, 1) := by decide +kernel
theorem dX12_fieldOf_17 : decode cX12_fieldOf 17 = .ok (.lcmp, 1) := by decide +kernel
theorem dX12_fieldOf_18 : decode cX12_fieldOf 18 = .ok (.ifCond .ne 5, 3) := by decide +kernel
theorem dX12_fieldOf_21 : decode cX12_fieldOf 21 = .ok (.iload_n 3, 1) := by decide +kernel
theorem dX12_fieldOf_22 : decode cX12_fieldOf 22 = .ok (.ireturn, 1) := by decide +kernel
theorem dX12_fieldOf_23 : decode cX12_fieldOf 23 = .ok (.iinc 3 1, 3) := by decide +kernel
theorem dX12_fieldOf_26 : decode cX12_fieldOf 26 = .ok (.goto (-24), 3) := by decide +kernel
theorem dX12_fieldOf_29 : decode cX12_fieldOf 29 = .ok (.iconst (-1), 1) := by decide +kernel
theorem dX12_fieldOf_30 : decode cX12_fieldOf 30 = .ok (.ireturn, 1) := by decide +kernel
theorem dX12_broken_0 : decode cX12_broken 0 = .ok (.iconst 0, 1) := by decide +kernel
theorem dX12_broken_1 : decode cX12_broken 1 = .ok (.istore_n 2, 1) := by decide +kernel
theorem dX12_broken_2 : decode cX12_broken 2 = .ok (.iload_n 2, 1) := by decide +kernel
theorem dX12_broken_3 : decode cX12_broken 3 = .ok (.aload_n 0, 1) := by decide +kernel
theorem dX12_broken_4 : decode cX12_broken 4 = .ok (.getfield 32, 3) := by decide +kernel
theorem dX12_broken_7 : decode cX12_broken 7 = .ok (.if_icmp .ge 24, 3) := by decide +kernel
theorem dX12_broken_10 : decode cX12_broken 10 = .ok (.aload_n 0, 1) := by decide +kernel
theorem dX12_broken_11 : decode cX12_broken 11 = .ok (.getfield 24, 3) := by decide +kernel
theorem dX12_broken_14 : decode cX12_broken 14 = .ok (.iload_n 2, 1) := by decide +kernel
theorem dX12_broken_15 : decode cX12_broken 15 = .ok (.aaload, 1) := by decide +kernel
theorem dX12_broken_16 : decode cX12_broken 16 = .ok (.aload_n 1, 1) := by decide +kernel
theorem dX12_broken_17 : decode cX12_broken 17 = .ok (.invokevirtual 35, 3) := by decide +kernel
theorem dX12_broken_20 : decode cX12_broken 20 = .ok (.ifCond .eq 5, 3) := by decide +kernel
theorem dX12_broken_23 : decode cX12_broken 23 = .ok (.iload_n 2, 1) := by decide +kernel
theorem dX12_broken_24 : decode cX12_broken 24 = .ok (.ireturn, 1) := by decide +kernel
theorem dX12_broken_25 : decode cX12_broken 25 = .ok (.iinc 2 1, 3) := by decide +kernel
theorem dX12_broken_28 : decode cX12_broken 28 = .ok (.goto (-26), 3) := by decide +kernel
theorem dX12_broken_31 : decode cX12_broken 31 = .ok (.iconst (-1), 1) := by decide +kernel
theorem dX12_broken_32 : decode cX12_broken 32 = .ok (.ireturn, 1) := by decide +kernel
theorem dX13_init_0 : decode cX13_init 0 = .ok (.aload_n 0, 1) := by decide +kernel
theorem dX13_init_1 : decode cX13_init 1 = .ok (.aconst_null, 1) := by decide +kernel
theorem dX13_init_2 : decode cX13_init 2 = .ok (.aconst_null, 1) := by decide +kernel
theorem dX13_init_3 : decode cX13_init 3 = .ok (.iconst 0, 1) := by decide +kernel
theorem dX13_init_4 : decode cX13_init 4 = .ok (.iconst 0, 1) := by decide +kernel
theorem dX13_init_5 : decode cX13_init 5 = .ok (.invokespecial 1, 3) := by decide +kernel
theorem dX13_init_8 : decode cX13_init 8 = .ok (.return_, 1) := by decide +kernel
theorem dX14_init_0 : decode cX14_init 0 = .ok (.aload_n 0, 1) := by decide +kernel
theorem dX14_init_1 : decode cX14_init 1 = .ok (.invokespecial 3, 3) := by decide +kernel
theorem dX14_init_4 : decode cX14_init 4 = .ok (.aload_n 0, 1) := by decide +kernel
theorem dX14_init_5 : decode cX14_init 5 = .ok (.iconst (-1), 1) := by decide +kernel
theorem dX14_init_6 : decode cX14_init 6 = .ok (.putfield 9, 3) := by decide +kernel
theorem dX14_init_9 : decode cX14_init 9 = .ok (.aload_n 0, 1) := by decide +kernel
theorem dX14_init_10 : decode cX14_init 10 = .ok (.iconst (-1), 1) := by decide +kernel
theorem dX14_init_11 : decode cX14_init 11 = .ok (.putfield 15, 3) := by decide +kernel
theorem dX14_init_14 : decode cX14_init 14 = .ok (.aload_n 0, 1) := by decide +kernel
theorem dX14_init_15 : decode cX14_init 15 = .ok (.iconst (-1), 1) := by decide +kernel
theorem dX14_init_16 : decode cX14_init 16 = .ok (.putfield 18, 3) := by decide +kernel
theorem dX14_init_19 : decode cX14_init 19 = .ok (.aload_n 0, 1) := by decide +kernel
theorem dX14_init_20 : decode cX14_init 20 = .ok (.bipush 100, 2) := by decide +kernel
theorem dX14_init_22 : decode cX14_init 22 = .ok (.newarray .boolean, 2) := by decide +kernel
theorem dX14_init_24 : decode cX14_init 24 = .ok (.putfield 21, 3) := by decide +kernel
theorem dX14_init_27 : decode cX14_init 27 = .ok (.aload_n 0, 1) := by decide +kernel
theorem dX14_init_28 : decode cX14_init 28 = .ok (.bipush 100, 2) := by decide +kernel
theorem dX14_init_30 : decode cX14_init 30 = .ok (.newarray .long, 2) := by decide +kernel
theorem dX14_init_32 : decode cX14_init 32 = .ok (.putfield 25, 3) := by decide +kernel
theorem dX14_init_35 : decode cX14_init 35 = .ok (.aload_n 0, 1) := by decide +kernel
theorem dX14_init_36 : decode cX14_init 36 = .ok (.bipush 100, 2) := by decide +kernel
theorem dX14_init_38 : decode cX14_init 38 = .ok (.newarray .long, 2) := by decide +kernel
theorem dX14_init_40 : decode cX14_init 40 = .ok (.putfield 29, 3) := by decide +kernel
theorem dX14_init_43 : decode cX14_init 43 = .ok (.return_, 1) := by decide +kernel
theorem dX15_init_0 : decode cX15_init 0 = .ok (.aload_n 0, 1) := by decide +kernel
theorem dX15_init_1 : decode cX15_init 1 = .ok (.invokespecial 3, 3) := by decide +kernel
theorem dX15_init_4 : decode cX15_init 4 = .ok (.aload_n 0, 1) := by decide +kernel
theorem dX15_init_5 : decode cX15_init 5 = .ok (.bipush 12, 2) := by decide +kernel
theorem dX15_init_7 : decode cX15_init 7 = .ok (.newarray .int, 2) := by decide +kernel
theorem dX15_init_9 : decode cX15_init 9 = .ok (.putfield 9, 3) := by decide +kernel
theorem dX15_init_12 : decode cX15_init 12 = .ok (.aload_n 0, 1) := by decide +kernel
theorem dX15_init_13 : decode cX15_init 13 = .ok (.bipush 12, 2) := by decide +kernel
theorem dX15_init_15 : decode cX15_init 15 = .ok (.newarray .int, 2) := by decide +kernel
theorem dX15_init_17 : decode cX15_init 17 = .ok (.putfield 15, 3) := by decide +kernel
theorem dX15_init_20 : decode cX15_init 20 = .ok (.aload_n 0, 1) := by decide +kernel
theorem dX15_init_21 : decode cX15_init 21 = .ok (.bipush 12, 2) := by decide +kernel
theorem dX15_init_23 : decode cX15_init 23 = .ok (.newarray .int, 2) := by decide +kernel
theorem dX15_init_25 : decode cX15_init 25 = .ok (.putfield 18, 3) := by decide +kernel
theorem dX15_init_28 : decode cX15_init 28 = .ok (.aload_n 0, 1) := by decide +kernel
theorem dX15_init_29 : decode cX15_init 29 = .ok (.bipush 12, 2) := by decide +kernel
theorem dX15_init_31 : decode cX15_init 31 = .ok (.newarray .boolean, 2) := by decide +kernel
theorem dX15_init_33 : decode cX15_init 33 = .ok (.putfield 21, 3) := by decide +kernel
theorem dX15_init_36 : decode cX15_init 36 = .ok (.return_, 1) := by decide +kernel
theorem dX15_holds_0 : decode cX15_holds 0 = .ok (.iconst 1, 1) := by decide +kernel
theorem dX15_holds_1 : decode cX15_holds 1 = .ok (.istore_n 2, 1) := by decide +kernel
theorem dX15_holds_2 : decode cX15_holds 2 = .ok (.iconst 0, 1) := by decide +kernel
theorem dX15_holds_3 : decode cX15_holds 3 = .ok (.istore_n 3, 1) := by decide +kernel
theorem dX15_holds_4 : decode cX15_holds 4 = .ok (.iload_n 3, 1) := by decide +kernel
theorem dX15_holds_5 : decode cX15_holds 5 = .ok (.aload_n 0, 1) := by decide +kernel
theorem dX15_holds_6 : decode cX15_holds 6 = .ok (.getfield 25, 3) := by decide +kernel
theorem dX15_holds_9 : decode cX15_holds 9 = .ok (.if_icmp .ge 140, 3) := by decide +kernel
theorem dX15_holds_12 : decode cX15_holds 12 = .ok (.iload_n 2, 1) := by decide +kernel
theorem dX15_holds_13 : decode cX15_holds 13 = .ok (.ifCond .eq 136, 3) := by decide +kernel
theorem dX15_holds_16 : decode cX15_holds 16 = .ok (.aload_n 1, 1) := by decide +kernel
theorem dX15_holds_17 : decode cX15_holds 17 = .ok (.aload_n 0, 1) := by decide +kernel
theorem dX15_holds_18 : decode cX15_holds 18 = .ok (.getfield 9, 3) := by decide +kernel
theorem dX15_holds_21 : decode cX15_holds 21 = .ok (.iload_n 3, 1) := by decide +kernel
theorem dX15_holds_22 : decode cX15_holds 22 = .ok (.iaload, 1) := by decide +kernel
theorem dX15_holds_23 : decode cX15_holds 23 = .ok (.iaload, 1) := by decide +kernel
theorem dX15_holds_24 : decode cX15_holds 24 = .ok (.istore 4, 2) := by decide +kernel
theorem dX15_holds_26 : decode cX15_holds 26 = .ok (.aload_n 0, 1) := by decide +kernel
theorem dX15_holds_27 : decode cX15_holds 27 = .ok (.getfield 21, 3) := by decide +kernel
theorem dX15_holds_30 : decode cX15_holds 30 = .ok (.iload_n 3, 1) := by decide +kernel
theorem dX15_holds_31 : decode cX15_holds 31 = .ok (.baload, 1) := by decide +kernel
theorem dX15_holds_32 : decode cX15_holds 32 = .ok (.ifCond .eq 14, 3) := by decide +kernel
theorem dX15_holds_35 : decode cX15_holds 35 = .ok (.aload_n 1, 1) := by decide +kernel
theorem dX15_holds_36 : decode cX15_holds 36 = .ok (.aload_n 0, 1) := by decide +kernel
theorem dX15_holds_37 : decode cX15_holds 37 = .ok (.getfield 18, 3) := by decide +kernel
theorem dX15_holds_40 : decode cX15_holds 40 = .ok (.iload_n 3, 1) := by decide +kernel
theorem dX15_holds_41 : decode cX15_holds 41 = .ok (.iaload, 1) := by decide +kernel
theorem dX15_holds_42 : decode cX15_holds 42 = .ok (.iaload, 1) := by decide +kernel
theorem dX15_holds_43 : decode cX15_holds 43 = .ok (.goto 9, 3) := by decide +kernel
theorem dX15_holds_46 : decode cX15_holds 46 = .ok (.aload_n 0, 1) := by decide +kernel
theorem dX15_holds_47 : decode cX15_holds 47 = .ok (.getfield 18, 3) := by decide +kernel
theorem dX15_holds_50 : decode cX15_holds 50 = .ok (.iload_n 3, 1) := by decide +kernel
theorem dX15_holds_51 : decode cX15_holds 51 = .ok (.iaload, 1) := by decide +kernel
theorem dX15_holds_52 : decode cX15_holds 52 = .ok (.istore 5, 2) := by decide +kernel
theorem dX15_holds_54 : decode cX15_holds 54 = .ok (.aload_n 0, 1) := by decide +kernel
theorem dX15_holds_55 : decode cX15_holds 55 = .ok (.getfield 15, 3) := by decide +kernel
theorem dX15_holds_58 : decode cX15_holds 58 = .ok (.iload_n 3, 1) := by decide +kernel
theorem dX15_holds_59 : decode cX15_holds 59 = .ok (.iaload, 1) := by decide +kernel
theorem dX15_holds_60 : decode cX15_holds 60 = .ok (.bipush 61, 2) := by decide +kernel
theorem dX15_holds_62 : decode cX15_holds 62 = .ok (.if_icmp .ne 18, 3) := by decide +kernel
theorem dX15_holds_65 : decode cX15_holds 65 = .ok (.iload 4, 2) := by decide +kernel
theorem dX15_holds_67 : decode cX15_holds 67 = .ok (.iload 5, 2) := by decide +kernel
theorem dX15_holds_69 : decode cX15_holds 69 = .ok (.if_icmp .ne 7, 3) := by decide +kernel
theorem dX15_holds_72 : decode cX15_holds 72 = .ok (.iconst 1, 1) := by decide +kernel
theorem dX15_holds_73 : decode cX15_holds 73 = .ok (.goto 45, 3) := by decide +kernel
theorem dX15_holds_76 : decode cX15_holds 76 = .ok (.iconst 0, 1) := by decide +kernel
theorem dX15_holds_77 : decode cX15_holds 77 = .ok (.goto 41, 3) := by decide +kernel
theorem dX15_holds_80 : decode cX15_holds 80 = .ok (.aload_n 0, 1) := by decide +kernel
theorem dX15_holds_81 : decode cX15_holds 81 = .ok (.getfield 15, 3) := by decide +kernel
theorem dX15_holds_84 : decode cX15_holds 84 = .ok (.iload_n 3, 1) := by decide +kernel
theorem dX15_holds_85 : decode cX15_holds 85 = .ok (.iaload, 1) := by decide +kernel
theorem dX15_holds_86 : decode cX15_holds 86 = .ok (.bipush 60, 2) := by decide +kernel
theorem dX15_holds_88 : decode cX15_holds 88 = .ok (.if_icmp .ne 18, 3) := by decide +kernel
theorem dX15_holds_91 : decode cX15_holds 91 = .ok (.iload 4, 2) := by decide +kernel
theorem dX15_holds_93 : decode cX15_holds 93 = .ok (.iload 5, 2) := by decide +kernel
theorem dX15_holds_95 : decode cX15_holds 95 = .ok (.if_icmp .ge 7, 3) := by decide +kernel
theorem dX15_holds_98 : decode cX15_holds 98 = .ok (.iconst 1, 1) := by decide +kernel
theorem dX15_holds_99 : decode cX15_holds 99 = .ok (.goto 19, 3) := by decide +kernel
theorem dX15_holds_102 : decode cX15_holds 102 = .ok (.iconst 0, 1) := by decide +kernel
theorem dX15_holds_103 : decode cX15_holds 103 = .ok (.goto 15, 3) := by decide +kernel
theorem dX15_holds_106 : decode cX15_holds 106 = .ok (.iload 4, 2) := by decide +kernel
theorem dX15_holds_108 : decode cX15_holds 108 = .ok (.iload 5, 2) := by decide +kernel
theorem dX15_holds_110 : decode cX15_holds 110 = .ok (.if_icmp .le 7, 3) := by decide +kernel
theorem dX15_holds_113 : decode cX15_holds 113 = .ok (.iconst 1, 1) := by decide +kernel
theorem dX15_holds_114 : decode cX15_holds 114 = .ok (.goto 4, 3) := by decide +kernel
theorem dX15_holds_117 : decode cX15_holds 117 = .ok (.iconst 0, 1) := by decide +kernel
theorem dX15_holds_118 : decode cX15_holds 118 = .ok (.istore 6, 2) := by decide +kernel
theorem dX15_holds_120 : decode cX15_holds 120 = .ok (.iload 4, 2) := by decide +kernel
theorem dX15_holds_122 : decode cX15_holds 122 = .ok (.iconst (-1), 1) := by decide +kernel
theorem dX15_holds_123 : decode cX15_holds 123 = .ok (.if_icmp .eq 18, 3) := by decide +kernel
theorem dX15_holds_126 : decode cX15_holds 126 = .ok (.iload 5, 2) := by decide +kernel
theorem dX15_holds_128 : decode cX15_holds 128 = .ok (.iconst (-1), 1) := by decide +kernel
theorem dX15_holds_129 : decode cX15_holds 129 = .ok (.if_icmp .eq 12, 3) := by decide +kernel
theorem dX15_holds_132 : decode cX15_holds 132 = .ok (.iload 6, 2) := by decide +kernel
theorem dX15_holds_134 : decode cX15_holds 134 = .ok (.ifCond .eq 7, 3) := by decide +kernel
theorem dX15_holds_137 : decode cX15_holds 137 = .ok (.iconst 1, 1) := by decide +kernel
theorem dX15_holds_138 : decode cX15_holds 138 = .ok (.goto 4, 3) := by decide +kernel
theorem dX15_holds_141 : decode cX15_holds 141 = .ok (.iconst 0, 1) := by decide +kernel
theorem dX15_holds_142 : decode cX15_holds 142 = .ok (.istore_n 2, 1) := by decide +kernel
theorem dX15_holds_143 : decode cX15_holds 143 = .ok (.iinc 3 1, 3) := by decide +kernel
theorem dX15_holds_146 : decode cX15_holds 146 = .ok (.goto (-142), 3) := by decide +kernel
theorem dX15_holds_149 : decode cX15_holds 149 = .ok (.iload_n 2, 1) := by decide +kernel
theorem dX15_holds_150 : decode cX15_holds 150 = .ok (.ireturn, 1) := by decide +kernel
theorem dX16_init_0 : decode cX16_init 0 = .ok (.aload_n 0, 1) := by decide +kernel
theorem dX16_init_1 : decode cX16_init 1 = .ok (.invokespecial 1, 3) := by decide +kernel
theorem dX16_init_4 : decode cX16_init 4 = .ok (.aload_n 0, 1) := by decide +kernel
theorem dX16_init_5 : decode cX16_init 5 = .ok (.iconst (-1), 1) := by decide +kernel
theorem dX16_init_6 : decode cX16_init 6 = .ok (.putfield 9, 3) := by decide +kernel
theorem dX16_init_9 : decode cX16_init 9 = .ok (.aload_n 0, 1) := by decide +kernel
theorem dX16_init_10 : decode cX16_init 10 = .ok (.bipush 8, 2) := by decide +kernel
theorem dX16_init_12 : decode cX16_init 12 = .ok (.anewarray 13, 3) := by decide +kernel
theorem dX16_init_15 : decode cX16_init 15 = .ok (.putfield 15, 3) := by decide +kernel
theorem dX16_init_18 : decode cX16_init 18 = .ok (.aload_n 0, 1) := by decide +kernel
theorem dX16_init_19 : decode cX16_init 19 = .ok (.new 19, 3) := by decide +kernel
theorem dX16_init_22 : decode cX16_init 22 = .ok (.dup, 1) := by decide +kernel
theorem dX16_init_23 : decode cX16_init 23 = .ok (.invokespecial 21, 3) := by decide +kernel
theorem dX16_init_26 : decode cX16_init 26 = .ok (.putfield 22, 3) := by decide +kernel
theorem dX16_init_29 : decode cX16_init 29 = .ok (.aload_n 0, 1) := by decide +kernel
theorem dX16_init_30 : decode cX16_init 30 = .ok (.sipush 500, 3) := by decide +kernel
theorem dX16_init_33 : decode cX16_init 33 = .ok (.newarray .byte, 2) := by decide +kernel
theorem dX16_init_35 : decode cX16_init 35 = .ok (.putfield 26, 3) := by decide +kernel
theorem dX16_init_38 : decode cX16_init 38 = .ok (.aload_n 0, 1) := by decide +kernel
theorem dX16_init_39 : decode cX16_init 39 = .ok (.sipush 360, 3) := by decide +kernel
theorem dX16_init_42 : decode cX16_init 42 = .ok (.newarray .int, 2) := by decide +kernel
theorem dX16_init_44 : decode cX16_init 44 = .ok (.putfield 30, 3) := by decide +kernel
theorem dX16_init_47 : decode cX16_init 47 = .ok (.aload_n 0, 1) := by decide +kernel
theorem dX16_init_48 : decode cX16_init 48 = .ok (.sipush 360, 3) := by decide +kernel
theorem dX16_init_51 : decode cX16_init 51 = .ok (.newarray .int, 2) := by decide +kernel
theorem dX16_init_53 : decode cX16_init 53 = .ok (.putfield 34, 3) := by decide +kernel
theorem dX16_init_56 : decode cX16_init 56 = .ok (.aload_n 0, 1) := by decide +kernel
theorem dX16_init_57 : decode cX16_init 57 = .ok (.sipush 1800, 3) := by decide +kernel
theorem dX16_init_60 : decode cX16_init 60 = .ok (.newarray .int, 2) := by decide +kernel
theorem dX16_init_62 : decode cX16_init 62 = .ok (.putfield 37, 3) := by decide +kernel
theorem dX16_init_65 : decode cX16_init 65 = .ok (.aload_n 0, 1) := by decide +kernel
theorem dX16_init_66 : decode cX16_init 66 = .ok (.bipush 60, 2) := by decide +kernel
theorem dX16_init_68 : decode cX16_init 68 = .ok (.newarray .int, 2) := by decide +kernel
theorem dX16_init_70 : decode cX16_init 70 = .ok (.putfield 40, 3) := by decide +kernel
theorem dX16_init_73 : decode cX16_init 73 = .ok (.aload_n 0, 1) := by decide +kernel
theorem dX16_init_74 : decode cX16_init 74 = .ok (.bipush 60, 2) := by decide +kernel
theorem dX16_init_76 : decode cX16_init 76 = .ok (.newarray .int, 2) := by decide +kernel
theorem dX16_init_78 : decode cX16_init 78 = .ok (.putfield 43, 3) := by decide +kernel
theorem dX16_init_81 : decode cX16_init 81 = .ok (.aload_n 0, 1) := by decide +kernel
theorem dX16_init_82 : decode cX16_init 82 = .ok (.bipush 60, 2) := by decide +kernel
theorem dX16_init_84 : decode cX16_init 84 = .ok (.newarray .int, 2) := by decide +kernel
theorem dX16_init_86 : decode cX16_init 86 = .ok (.putfield 46, 3) := by decide +kernel
theorem dX16_init_89 : decode cX16_init 89 = .ok (.aload_n 0, 1) := by decide +kernel
theorem dX16_init_90 : decode cX16_init 90 = .ok (.bipush 60, 2) := by decide +kernel
theorem dX16_init_92 : decode cX16_init 92 = .ok (.newarray .int, 2) := by decide +kernel
theorem dX16_init_94 : decode cX16_init 94 = .ok (.putfield 49, 3) := by decide +kernel
theorem dX16_init_97 : decode cX16_init 97 = .ok (.aload_n 0, 1) := by decide +kernel
theorem dX16_init_98 : decode cX16_init 98 = .ok (.bipush 60, 2) := by decide +kernel
theorem dX16_init_100 : decode cX16_init 100 = .ok (.newarray .int, 2) := by decide +kernel
theorem dX16_init_102 : decode cX16_init 102 = .ok (.putfield 52, 3) := by decide +kernel
theorem dX16_init_105 : decode cX16_init 105 = .ok (.aload_n 0, 1) := by decide +kernel
theorem dX16_init_106 : decode cX16_init 106 = .ok (.bipush 60, 2) := by decide +kernel
theorem dX16_init_108 : decode cX16_init 108 = .ok (.newarray .int, 2) := by decide +kernel
theorem dX16_init_110 : decode cX16_init 110 = .ok (.putfield 55, 3) := by decide +kernel
theorem dX16_init_113 : decode cX16_init 113 = .ok (.aload_n 0, 1) := by decide +kernel
theorem dX16_init_114 : decode cX16_init 114 = .ok (.bipush 6, 2) := by decide +kernel
theorem dX16_init_116 : decode cX16_init 116 = .ok (.newarray .int, 2) := by decide +kernel
theorem dX16_init_118 : decode cX16_init 118 = .ok (.putfield 58, 3) := by decide +kernel
theorem dX16_init_121 : decode cX16_init 121 = .ok (.aload_n 0, 1) := by decide +kernel
theorem dX16_init_122 : decode cX16_init 122 = .ok (.bipush 6, 2) := by decide +kernel
theorem dX16_init_124 : decode cX16_init 124 = .ok (.newarray .int, 2) := by decide +kernel
theorem dX16_init_126 : decode cX16_init 126 = .ok (.putfield 61, 3) := by decide +kernel
theorem dX16_init_129 : decode cX16_init 129 = .ok (.aload_n 0, 1) := by decide +kernel
theorem dX16_init_130 : decode cX16_init 130 = .ok (.bipush 6, 2) := by decide +kernel
theorem dX16_init_132 : decode cX16_init 132 = .ok (.newarray .int, 2) := by decide +kernel
theorem dX16_init_134 : decode cX16_init 134 = .ok (.putfield 64, 3) := by decide +kernel
theorem dX16_init_137 : decode cX16_init 137 = .ok (.aload_n 0, 1) := by decide +kernel
theorem dX16_init_138 : decode cX16_init 138 = .ok (.iconst (-1), 1) := by decide +kernel
theorem dX16_init_139 : decode cX16_init 139 = .ok (.putfield 67, 3) := by decide +kernel
theorem dX16_init_142 : decode cX16_init 142 = .ok (.aload_n 0, 1) := by decide +kernel
theorem dX16_init_143 : decode cX16_init 143 = .ok (.bipush 60, 2) := by decide +kernel
theorem dX16_init_145 : decode cX16_init 145 = .ok (.newarray .int, 2) := by decide +kernel
theorem dX16_init_147 : decode cX16_init 147 = .ok (.putfield 70, 3) := by decide +kernel
theorem dX16_init_150 : decode cX16_init 150 = .ok (.aload_n 0, 1) := by decide +kernel
theorem dX16_init_151 : decode cX16_init 151 = .ok (.iconst (-1), 1) := by decide +kernel
theorem dX16_init_152 : decode cX16_init 152 = .ok (.putfield 73, 3) := by decide +kernel
theorem dX16_init_155 : decode cX16_init 155 = .ok (.aload_n 0, 1) := by decide +kernel
theorem dX16_init_156 : decode cX16_init 156 = .ok (.bipush 10, 2) := by decide +kernel
theorem dX16_init_158 : decode cX16_init 158 = .ok (.newarray .int, 2) := by decide +kernel
theorem dX16_init_160 : decode cX16_init 160 = .ok (.putfield 76, 3) := by decide +kernel
theorem dX16_init_163 : decode cX16_init 163 = .ok (.aload_n 0, 1) := by decide +kernel
theorem dX16_init_164 : decode cX16_init 164 = .ok (.bipush 60, 2) := by decide +kernel
theorem dX16_init_166 : decode cX16_init 166 = .ok (.newarray .int, 2) := by decide +kernel
theorem dX16_init_168 : decode cX16_init 168 = .ok (.putfield 79, 3) := by decide +kernel
theorem dX16_init_171 : decode cX16_init 171 = .ok (.aload_n 0, 1) := by decide +kernel
theorem dX16_init_172 : decode cX16_init 172 = .ok (.iconst 3, 1) := by decide +kernel
theorem dX16_init_173 : decode cX16_init 173 = .ok (.putfield 82, 3) := by decide +kernel
theorem dX16_init_176 : decode cX16_init 176 = .ok (.aload_n 0, 1) := by decide +kernel
theorem dX16_init_177 : decode cX16_init 177 = .ok (.iconst 3, 1) := by decide +kernel
theorem dX16_init_178 : decode cX16_init 178 = .ok (.putfield 85, 3) := by decide +kernel
theorem dX16_init_181 : decode cX16_init 181 = .ok (.aload_n 0, 1) := by decide +kernel
theorem dX16_init_182 : decode cX16_init 182 = .ok (.bipush 10, 2) := by decide +kernel
theorem dX16_init_184 : decode cX16_init 184 = .ok (.putfield 88, 3) := by decide +kernel
theorem dX16_init_187 : decode cX16_init 187 = .ok (.aload_n 0, 1) := by decide +kernel
theorem dX16_init_188 : decode cX16_init 188 = .ok (.bipush 100, 2) := by decide +kernel
theorem dX16_init_190 : decode cX16_init 190 = .ok (.newarray .int, 2) := by decide +kernel
theorem dX16_init_192 : decode cX16_init 192 = .ok (.putfield 91, 3) := by decide +kernel
theorem dX16_init_195 : decode cX16_init 195 = .ok (.aload_n 0, 1) := by decide +kernel
theorem dX16_init_196 : decode cX16_init 196 = .ok (.bipush 100, 2) := by decide +kernel
theorem dX16_init_198 : decode cX16_init 198 = .ok (.newarray .int, 2) := by decide +kernel
theorem dX16_init_200 : decode cX16_init 200 = .ok (.putfield 94, 3) := by decide +kernel
theorem dX16_init_203 : decode cX16_init 203 = .ok (.aload_n 0, 1) := by decide +kernel
theorem dX16_init_204 : decode cX16_init 204 = .ok (.bipush 100, 2) := by decide +kernel
theorem dX16_init_206 : decode cX16_init 206 = .ok (.newarray .int, 2) := by decide +kernel
theorem dX16_init_208 : decode cX16_init 208 = .ok (.putfield 97, 3) := by decide +kernel
theorem dX16_init_211 : decode cX16_init 211 = .ok (.aload_n 0, 1) := by decide +kernel
theorem dX16_init_212 : decode cX16_init 212 = .ok (.bipush 20, 2) := by decide +kernel
theorem dX16_init_214 : decode cX16_init 214 = .ok (.newarray .int, 2) := by decide +kernel
theorem dX16_init_216 : decode cX16_init 216 = .ok (.putfield 100, 3) := by decide +kernel
theorem dX16_init_219 : decode cX16_init 219 = .ok (.aload_n 0, 1) := by decide +kernel
theorem dX16_init_220 : decode cX16_init 220 = .ok (.bipush 20, 2) := by decide +kernel
theorem dX16_init_222 : decode cX16_init 222 = .ok (.newarray .int, 2) := by decide +kernel
theorem dX16_init_224 : decode cX16_init 224 = .ok (.putfield 103, 3) := by decide +kernel
theorem dX16_init_227 : decode cX16_init 227 = .ok (.aload_n 0, 1) := by decide +kernel
theorem dX16_init_228 : decode cX16_init 228 = .ok (.bipush 100, 2) := by decide +kernel
theorem dX16_init_230 : decode cX16_init 230 = .ok (.newarray .int, 2) := by decide +kernel
theorem dX16_init_232 : decode cX16_init 232 = .ok (.putfield 106, 3) := by decide +kernel
theorem dX16_init_235 : decode cX16_init 235 = .ok (.return_, 1) := by decide +kernel
theorem dX16_thrown_0 : decode cX16_thrown 0 = .ok (.aload_n 0, 1) := by decide +kernel
theorem dX16_thrown_1 : decode cX16_thrown 1 = .ok (.getfield 109, 3) := by decide +kernel
theorem dX16_thrown_4 : decode cX16_thrown 4 = .ok (.ireturn, 1) := by decide +kernel
theorem dX16_refused_0 : decode cX16_refused 0 = .ok (.aload_n 0, 1) := by decide +kernel
theorem dX16_refused_1 : decode cX16_refused 1 = .ok (.iload_n 1, 1) := by decide +kernel
theorem dX16_refused_2 : decode cX16_refused 2 = .ok (.putfield 112, 3) := by decide +kernel
theorem dX16_refused_5 : decode cX16_refused 5 = .ok (.aload_n 0, 1) := by decide +kernel
theorem dX16_refused_6 : decode cX16_refused 6 = .ok (.iconst (-1), 1) := by decide +kernel
theorem dX16_refused_7 : decode cX16_refused 7 = .ok (.putfield 9, 3) := by decide +kernel
theorem dX16_refused_10 : decode cX16_refused 10 = .ok (.iconst (-1), 1) := by decide +kernel
theorem dX16_refused_11 : decode cX16_refused 11 = .ok (.ireturn, 1) := by decide +kernel
theorem dX16_denied_0 : decode cX16_denied 0 = .ok (.aload_n 0, 1) := by decide +kernel
theorem dX16_denied_1 : decode cX16_denied 1 = .ok (.iload_n 1, 1) := by decide +kernel
theorem dX16_denied_2 : decode cX16_denied 2 = .ok (.putfield 112, 3) := by decide +kernel
theorem dX16_denied_5 : decode cX16_denied 5 = .ok (.aload_n 0, 1) := by decide +kernel
theorem dX16_denied_6 : decode cX16_denied 6 = .ok (.iconst (-1), 1) := by decide +kernel
theorem dX16_denied_7 : decode cX16_denied 7 = .ok (.putfield 9, 3) := by decide +kernel
theorem dX16_denied_10 : decode cX16_denied 10 = .ok (.iconst 0, 1) := by decide +kernel
theorem dX16_denied_11 : decode cX16_denied 11 = .ok (.ireturn, 1) := by decide +kernel
theorem dX16_lost_0 : decode cX16_lost 0 = .ok (.aload_n 0, 1) := by decide +kernel
theorem dX16_lost_1 : decode cX16_lost 1 = .ok (.iload_n 1, 1) := by decide +kernel
theorem dX16_lost_2 : decode cX16_lost 2 = .ok (.putfield 112, 3) := by decide +kernel
theorem dX16_lost_5 : decode cX16_lost 5 = .ok (.aload_n 0, 1) := by decide +kernel
theorem dX16_lost_6 : decode cX16_lost 6 = .ok (.iconst (-1), 1) := by decide +kernel
theorem dX16_lost_7 : decode cX16_lost 7 = .ok (.putfield 9, 3) := by decide +kernel
theorem dX16_lost_10 : decode cX16_lost 10 = .ok (.ldc2_w 117, 3) := by decide +kernel
theorem dX16_lost_13 : decode cX16_lost 13 = .ok (.lreturn, 1) := by decide +kernel
theorem dX16_done_0 : decode cX16_done 0 = .ok (.aload_n 0, 1) := by decide +kernel
theorem dX16_done_1 : decode cX16_done 1 = .ok (.iconst 0, 1) := by decide +kernel
theorem dX16_done_2 : decode cX16_done 2 = .ok (.putfield 112, 3) := by decide +kernel
theorem dX16_done_5 : decode cX16_done 5 = .ok (.aload_n 0, 1) := by decide +kernel
theorem dX16_done_6 : decode cX16_done 6 = .ok (.iconst (-1), 1) := by decide +kernel
theorem dX16_done_7 : decode cX16_done 7 = .ok (.putfield 9, 3) := by decide +kernel
theorem dX16_done_10 : decode cX16_done 10 = .ok (.iload_n 1, 1) := by decide +kernel
theorem dX16_done_11 : decode cX16_done 11 = .ok (.ireturn, 1) := by decide +kernel
theorem dX16_told_0 : decode cX16_told 0 = .ok (.aload_n 0, 1) := by decide +kernel
theorem dX16_told_1 : decode cX16_told 1 = .ok (.iconst 0, 1) := by decide +kernel
theorem dX16_told_2 : decode cX16_told 2 = .ok (.putfield 112, 3) := by decide +kernel
theorem dX16_told_5 : decode cX16_told 5 = .ok (.aload_n 0, 1) := by decide +kernel
theorem dX16_told_6 : decode cX16_told 6 = .ok (.iconst (-1), 1) := by decide +kernel
theorem dX16_told_7 : decode cX16_told 7 = .ok (.putfield 9, 3) := by decide +kernel
theorem dX16_told_10 : decode cX16_told 10 = .ok (.lload_n 1, 1) := by decide +kernel
theorem dX16_told_11 : decode cX16_told 11 = .ok (.lreturn, 1) := by decide +kernel
theorem dX16_granted_0 : decode cX16_granted 0 = .ok (.aload_n 0, 1) := by decide +kernel
theorem dX16_granted_1 : decode cX16_granted 1 = .ok (.iconst 0, 1) := by decide +kernel
theorem dX16_granted_2 : decode cX16_granted 2 = .ok (.putfield 112, 3) := by decide +kernel
theorem dX16_granted_5 : decode cX16_granted 5 = .ok (.aload_n 0, 1) := by decide +kernel
theorem dX16_granted_6 : decode cX16_granted 6 = .ok (.iconst (-1), 1) := by decide +kernel
theorem dX16_granted_7 : decode cX16_granted 7 = .ok (.putfield 9, 3) := by decide +kernel
theorem dX16_granted_10 : decode cX16_granted 10 = .ok (.iconst 1, 1) := by decide +kernel
theorem dX16_granted_11 : decode cX16_granted 11 = .ok (.ireturn, 1) := by decide +kernel
theorem dX16_in_0 : decode cX16_in 0 = .ok (.iload_n 0, 1) := by decide +kernel
theorem dX16_in_1 : decode cX16_in 1 = .ok (.iload_n 1, 1) := by decide +kernel
theorem dX16_in_2 : decode cX16_in 2 = .ok (.if_icmp .lt 12, 3) := by decide +kernel
theorem dX16_in_5 : decode cX16_in 5 = .ok (.iload_n 0, 1) := by decide +kernel
theorem dX16_in_6 : decode cX16_in 6 = .ok (.iload_n 2, 1) := by decide +kernel
theorem dX16_in_7 : decode cX16_in 7 = .ok (.if_icmp .gt 7, 3) := by decide +kernel
theorem dX16_in_10 : decode cX16_in 10 = .ok (.iconst 1, 1) := by decide +kernel
theorem dX16_in_11 : decode cX16_in 11 = .ok (.goto 4, 3) := by decide +kernel
theorem dX16_in_14 : decode cX16_in 14 = .ok (.iconst 0, 1) := by decide +kernel
theorem dX16_in_15 : decode cX16_in 15 = .ok (.ireturn, 1) := by decide +kernel
theorem dX16_stop_0 : decode cX16_stop 0 = .ok (.aload_n 0, 1) := by decide +kernel
theorem dX16_stop_1 : decode cX16_stop 1 = .ok (.getfield 22, 3) := by decide +kernel
theorem dX16_stop_4 : decode cX16_stop 4 = .ok (.iload_n 1, 1) := by decide +kernel
theorem dX16_stop_5 : decode cX16_stop 5 = .ok (.putfield 119, 3) := by decide +kernel
theorem dX16_stop_8 : decode cX16_stop 8 = .ok (.aload_n 0, 1) := by decide +kernel
theorem dX16_stop_9 : decode cX16_stop 9 = .ok (.getfield 22, 3) := by decide +kernel
theorem dX16_stop_12 : decode cX16_stop 12 = .ok (.aload_n 0, 1) := by decide +kernel
theorem dX16_stop_13 : decode cX16_stop 13 = .ok (.getfield 122, 3) := by decide +kernel
theorem dX16_stop_16 : decode cX16_stop 16 = .ok (.putfield 125, 3) := by decide +kernel
theorem dX16_stop_19 : decode cX16_stop 19 = .ok (.aload_n 0, 1) := by decide +kernel
theorem dX16_stop_20 : decode cX16_stop 20 = .ok (.getfield 22, 3) := by decide +kernel
theorem dX16_stop_23 : decode cX16_stop 23 = .ok (.areturn, 1) := by decide +kernel
theorem dX16_byteAt_0 : decode cX16_byteAt 0 = .ok (.iload_n 1, 1) := by decide +kernel
theorem dX16_byteAt_1 : decode cX16_byteAt 1 = .ok (.aload_n 0, 1) := by decide +kernel
theorem dX16_byteAt_2 : decode cX16_byteAt 2 = .ok (.getfield 126, 3) := by decide +kernel
theorem dX16_byteAt_5 : decode cX16_byteAt 5 = .ok (.if_icmp .ge 16, 3) := by decide +kernel
theorem dX16_byteAt_8 : decode cX16_byteAt 8 = .ok (.aload_n 0, 1) := by decide +kernel
theorem dX16_byteAt_9 : decode cX16_byteAt 9 = .ok (.getfield 26, 3) := by decide +kernel
theorem dX16_byteAt_12 : decode cX16_byteAt 12 = .ok (.iload_n 1, 1) := by decide +kernel
theorem dX16_byteAt_13 : decode cX16_byteAt 13 = .ok (.baload, 1) := by decide +kernel
theorem dX16_byteAt_14 : decode cX16_byteAt 14 = .ok (.sipush 255, 3) := by decide +kernel
theorem dX16_byteAt_17 : decode cX16_byteAt 17 = .ok (.iand, 1) := by decide +kernel
theorem dX16_byteAt_18 : decode cX16_byteAt 18 = .ok (.goto 4, 3) := by decide +kernel
theorem dX16_byteAt_21 : decode cX16_byteAt 21 = .ok (.iconst (-1), 1) := by decide +kernel
theorem dX16_byteAt_22 : decode cX16_byteAt 22 = .ok (.ireturn, 1) := by decide +kernel
theorem dX16_isLetter_0 : decode cX16_isLetter 0 = .ok (.iload_n 0, 1) := by decide +kernel
theorem dX16_isLetter_1 : decode cX16_isLetter 1 = .ok (.bipush 97, 2) := by decide +kernel
theorem dX16_isLetter_3 : decode cX16_isLetter 3 = .ok (.if_icmp .lt 13, 3) := by decide +kernel
theorem dX16_isLetter_6 : decode cX16_isLetter 6 = .ok (.iload_n 0, 1) := by decide +kernel
theorem dX16_isLetter_7 : decode cX16_isLetter 7 = .ok (.bipush 122, 2) := by decide +kernel
theorem dX16_isLetter_9 : decode cX16_isLetter 9 = .ok (.if_icmp .gt 7, 3) := by decide +kernel
theorem dX16_isLetter_12 : decode cX16_isLetter 12 = .ok (.iconst 1, 1) := by decide +kernel
theorem dX16_isLetter_13 : decode cX16_isLetter 13 = .ok (.goto 4, 3) := by decide +kernel
theorem dX16_isLetter_16 : decode cX16_isLetter 16 = .ok (.iconst 0, 1) := by decide +kernel
theorem dX16_isLetter_17 : decode cX16_isLetter 17 = .ok (.ireturn, 1) := by decide +kernel
theorem dX16_isDigit_0 : decode cX16_isDigit 0 = .ok (.iload_n 0, 1) := by decide +kernel
theorem dX16_isDigit_1 : decode cX16_isDigit 1 = .ok (.bipush 48, 2) := by decide +kernel
theorem dX16_isDigit_3 : decode cX16_isDigit 3 = .ok (.if_icmp .lt 13, 3) := by decide +kernel
theorem dX16_isDigit_6 : decode cX16_isDigit 6 = .ok (.iload_n 0, 1) := by decide +kernel
theorem dX16_isDigit_7 : decode cX16_isDigit 7 = .ok (.bipush 57, 2) := by decide +kernel
theorem dX16_isDigit_9 : decode cX16_isDigit 9 = .ok (.if_icmp .gt 7, 3) := by decide +kernel
theorem dX16_isDigit_12 : decode cX16_isDigit 12 = .ok (.iconst 1, 1) := by decide +kernel
theorem dX16_isDigit_13 : decode cX16_isDigit 13 = .ok (.goto 4, 3) := by decide +kernel
theorem dX16_isDigit_16 : decode cX16_isDigit 16 = .ok (.iconst 0, 1) := by decide +kernel
theorem dX16_isDigit_17 : decode cX16_isDigit 17 = .ok (.ireturn, 1) := by decide +kernel
theorem dX16_wordOf_0 : decode cX16_wordOf 0 = .ok (.lconst 0, 1) := by decide +kernel
theorem dX16_wordOf_1 : decode cX16_wordOf 1 = .ok (.lstore_n 1, 1) := by decide +kernel
theorem dX16_wordOf_2 : decode cX16_wordOf 2 = .ok (.iconst 0, 1) := by decide +kernel
theorem dX16_wordOf_3 : decode cX16_wordOf 3 = .ok (.istore_n 3, 1) := by decide +kernel
theorem dX16_wordOf_4 : decode cX16_wordOf 4 = .ok (.iload_n 3, 1) := by decide +kernel
theorem dX16_wordOf_5 : decode cX16_wordOf 5 = .ok (.aload_n 0, 1) := by decide +kernel
theorem dX16_wordOf_6 : decode cX16_wordOf 6 = .ok (.invokevirtual 129, 3) := by decide +kernel
theorem dX16_wordOf_9 : decode cX16_wordOf 9 = .ok (.if_icmp .ge 27, 3) := by decide +kernel
theorem dX16_wordOf_12 : decode cX16_wordOf 12 = .ok (.ldc2_w 135, 3) := by decide +kernel
theorem dX16_wordOf_15 : decode cX16_wordOf 15 = .ok (.lload_n 1, 1) := by decide +kernel
theorem dX16_wordOf_16 : decode cX16_wordOf 16 = .ok (.lmul, 1) := by decide +kernel
theorem dX16_wordOf_17 : decode cX16_wordOf 17 = .ok (.aload_n 0, 1) := by decide +kernel
theorem dX16_wordOf_18 : decode cX16_wordOf 18 = .ok (.iload_n 3, 1) := by decide +kernel
theorem dX16_wordOf_19 : decode cX16_wordOf 19 = .ok (.invokevirtual 137, 3) := by decide +kernel
theorem dX16_wordOf_22 : decode cX16_wordOf 22 = .ok (.bipush 97, 2) := by decide +kernel
theorem dX16_wordOf_24 : decode cX16_wordOf 24 = .ok (.isub, 1) := by decide +kernel
theorem dX16_wordOf_25 : decode cX16_wordOf 25 = .ok (.iconst 1, 1) := by decide +kernel
theorem dX16_wordOf_26 : decode cX16_wordOf 26 = .ok (.iadd, 1) := by decide +kernel
theorem dX16_wordOf_27 : decode cX16_wordOf 27 = .ok (.i2l, 1) := by decide +kernel
theorem dX16_wordOf_28 : decode cX16_wordOf 28 = .ok (.ladd, 1) := by decide +kernel
theorem dX16_wordOf_29 : decode cX16_wordOf 29 = .ok (.lstore_n 1, 1) := by decide +kernel
theorem dX16_wordOf_30 : decode cX16_wordOf 30 = .ok (.iinc 3 1, 3) := by decide +kernel
theorem dX16_wordOf_33 : decode cX16_wordOf 33 = .ok (.goto (-29), 3) := by decide +kernel
theorem dX16_wordOf_36 : decode cX16_wordOf 36 = .ok (.lload_n 1, 1) := by decide +kernel
theorem dX16_wordOf_37 : decode cX16_wordOf 37 = .ok (.lreturn, 1) := by decide +kernel
theorem dX16_next_0 : decode cX16_next 0 = .ok (.aload_n 0, 1) := by decide +kernel
theorem dX16_next_1 : decode cX16_next 1 = .ok (.aload_n 0, 1) := by decide +kernel
theorem dX16_next_2 : decode cX16_next 2 = .ok (.getfield 141, 3) := by decide +kernel
theorem dX16_next_5 : decode cX16_next 5 = .ok (.invokevirtual 144, 3) := by decide +kernel
theorem dX16_next_8 : decode cX16_next 8 = .ok (.bipush 32, 2) := by decide +kernel
theorem dX16_next_10 : decode cX16_next 10 = .ok (.if_icmp .ne 16, 3) := by decide +kernel
theorem dX16_next_13 : decode cX16_next 13 = .ok (.aload_n 0, 1) := by decide +kernel
theorem dX16_next_14 : decode cX16_next 14 = .ok (.dup, 1) := by decide +kernel
theorem dX16_next_15 : decode cX16_next 15 = .ok (.getfield 141, 3) := by decide +kernel
theorem dX16_next_18 : decode cX16_next 18 = .ok (.iconst 1, 1) := by decide +kernel
theorem dX16_next_19 : decode cX16_next 19 = .ok (.iadd, 1) := by decide +kernel
theorem dX16_next_20 : decode cX16_next 20 = .ok (.putfield 141, 3) := by decide +kernel
theorem dX16_next_23 : decode cX16_next 23 = .ok (.goto (-23), 3) := by decide +kernel
theorem dX16_next_26 : decode cX16_next 26 = .ok (.aload_n 0, 1) := by decide +kernel
theorem dX16_next_27 : decode cX16_next 27 = .ok (.aload_n 0, 1) := by decide +kernel
theorem dX16_next_28 : decode cX16_next 28 = .ok (.getfield 141, 3) := by decide +kernel
theorem dX16_next_31 : decode cX16_next 31 = .ok (.putfield 122, 3) := by decide +kernel
theorem dX16_next_34 : decode cX16_next 34 = .ok (.aload_n 0, 1) := by decide +kernel
theorem dX16_next_35 : decode cX16_next 35 = .ok (.iconst 0, 1) := by decide +kernel
theorem dX16_next_36 : decode cX16_next 36 = .ok (.putfield 148, 3) := by decide +kernel
theorem dX16_next_39 : decode cX16_next 39 = .ok (.aload_n 0, 1) := by decide +kernel
theorem dX16_next_40 : decode cX16_next 40 = .ok (.iconst 0, 1) := by decide +kernel
theorem dX16_next_41 : decode cX16_next 41 = .ok (.putfield 151, 3) := by decide +kernel
theorem dX16_next_44 : decode cX16_next 44 = .ok (.aload_n 0, 1) := by decide +kernel
theorem dX16_next_45 : decode cX16_next 45 = .ok (.aload_n 0, 1) := by decide +kernel
theorem dX16_next_46 : decode cX16_next 46 = .ok (.getfield 141, 3) := by decide +kernel
theorem dX16_next_49 : decode cX16_next 49 = .ok (.invokevirtual 144, 3) := by decide +kernel
theorem dX16_next_52 : decode cX16_next 52 = .ok (.istore_n 1, 1) := by decide +kernel
theorem dX16_next_53 : decode cX16_next 53 = .ok (.iconst 0, 1) := by decide +kernel
theorem dX16_next_54 : decode cX16_next 54 = .ok (.istore_n 2, 1) := by decide +kernel
theorem dX16_next_55 : decode cX16_next 55 = .ok (.iload_n 1, 1) := by decide +kernel
theorem dX16_next_56 : decode cX16_next 56 = .ok (.iconst (-1), 1) := by decide +kernel
theorem dX16_next_57 : decode cX16_next 57 = .ok (.if_icmp .ne 11, 3) := by decide +kernel
theorem dX16_next_60 : decode cX16_next 60 = .ok (.aload_n 0, 1) := by decide +kernel
theorem dX16_next_61 : decode cX16_next 61 = .ok (.iconst 1, 1) := by decide +kernel
theorem dX16_next_62 : decode cX16_next 62 = .ok (.putfield 148, 3) := by decide +kernel
theorem dX16_next_65 : decode cX16_next 65 = .ok (.goto 225, 3) := by decide +kernel
theorem dX16_next_68 : decode cX16_next 68 = .ok (.iload_n 1, 1) := by decide +kernel
theorem dX16_next_69 : decode cX16_next 69 = .ok (.invokestatic 154, 3) := by decide +kernel
theorem dX16_next_72 : decode cX16_next 72 = .ok (.ifCond .eq 85, 3) := by decide +kernel
theorem dX16_next_75 : decode cX16_next 75 = .ok (.aload_n 0, 1) := by decide +kernel
theorem dX16_next_76 : decode cX16_next 76 = .ok (.lconst 0, 1) := by decide +kernel
theorem dX16_next_77 : decode cX16_next 77 = .ok (.putfield 158, 3) := by decide +kernel
theorem dX16_next_80 : decode cX16_next 80 = .ok (.aload_n 0, 1) := by decide +kernel
theorem dX16_next_81 : decode cX16_next 81 = .ok (.aload_n 0, 1) := by decide +kernel
theorem dX16_next_82 : decode cX16_next 82 = .ok (.getfield 141, 3) := by decide +kernel
theorem dX16_next_85 : decode cX16_next 85 = .ok (.invokevirtual 144, 3) := by decide +kernel
theorem dX16_next_88 : decode cX16_next 88 = .ok (.invokestatic 154, 3) := by decide +kernel
theorem dX16_next_91 : decode cX16_next 91 = .ok (.ifCond .eq 52, 3) := by decide +kernel
theorem dX16_next_94 : decode cX16_next 94 = .ok (.iload_n 2, 1) := by decide +kernel
theorem dX16_next_95 : decode cX16_next 95 = .ok (.bipush 8, 2) := by decide +kernel
theorem dX16_next_97 : decode cX16_next 97 = .ok (.if_icmp .ge 30, 3) := by decide +kernel
theorem dX16_next_100 : decode cX16_next 100 = .ok (.aload_n 0, 1) := by decide +kernel
theorem dX16_next_101 : decode cX16_next 101 = .ok (.ldc2_w 135, 3) := by decide +kernel
theorem dX16_next_104 : decode cX16_next 104 = .ok (.aload_n 0, 1) := by decide +kernel
theorem dX16_next_105 : decode cX16_next 105 = .ok (.getfield 158, 3) := by decide +kernel
theorem dX16_next_108 : decode cX16_next 108 = .ok (.lmul, 1) := by decide +kernel
theorem dX16_next_109 : decode cX16_next 109 = .ok (.aload_n 0, 1) := by decide +kernel
theorem dX16_next_110 : decode cX16_next 110 = .ok (.aload_n 0, 1) := by decide +kernel
theorem dX16_next_111 : decode cX16_next 111 = .ok (.getfield 141, 3) := by decide +kernel
theorem dX16_next_114 : decode cX16_next 114 = .ok (.invokevirtual 144, 3) := by decide +kernel
theorem dX16_next_117 : decode cX16_next 117 = .ok (.bipush 97, 2) := by decide +kernel
theorem dX16_next_119 : decode cX16_next 119 = .ok (.isub, 1) := by decide +kernel
theorem dX16_next_120 : decode cX16_next 120 = .ok (.iconst 1, 1) := by decide +kernel
theorem dX16_next_121 : decode cX16_next 121 = .ok (.iadd, 1) := by decide +kernel
theorem dX16_next_122 : decode cX16_next 122 = .ok (.i2l, 1) := by decide +kernel
theorem dX16_next_123 : decode cX16_next 123 = .ok (.ladd, 1) := by decide +kernel
theorem dX16_next_124 : decode cX16_next 124 = .ok (.putfield 158, 3) := by decide +kernel
theorem dX16_next_127 : decode cX16_next 127 = .ok (.iinc 2 1, 3) := by decide +kernel
theorem dX16_next_130 : decode cX16_next 130 = .ok (.aload_n 0, 1) := by decide +kernel
theorem dX16_next_131 : decode cX16_next 131 = .ok (.dup, 1) := by decide +kernel
theorem dX16_next_132 : decode cX16_next 132 = .ok (.getfield 141, 3) := by decide +kernel
theorem dX16_next_135 : decode cX16_next 135 = .ok (.iconst 1, 1) := by decide +kernel
theorem dX16_next_136 : decode cX16_next 136 = .ok (.iadd, 1) := by decide +kernel
theorem dX16_next_137 : decode cX16_next 137 = .ok (.putfield 141, 3) := by decide +kernel
theorem dX16_next_140 : decode cX16_next 140 = .ok (.goto (-60), 3) := by decide +kernel
theorem dX16_next_143 : decode cX16_next 143 = .ok (.iload_n 2, 1) := by decide +kernel
theorem dX16_next_144 : decode cX16_next 144 = .ok (.bipush 8, 2) := by decide +kernel
theorem dX16_next_146 : decode cX16_next 146 = .ok (.if_icmp .gt 144, 3) := by decide +kernel
theorem dX16_next_149 : decode cX16_next 149 = .ok (.aload_n 0, 1) := by decide +kernel
theorem dX16_next_150 : decode cX16_next 150 = .ok (.iconst 2, 1) := by decide +kernel
theorem dX16_next_151 : decode cX16_next 151 = .ok (.putfield 148, 3) := by decide +kernel
theorem dX16_next_154 : decode cX16_next 154 = .ok (.goto 136, 3) := by decide +kernel
theorem dX16_next_157 : decode cX16_next 157 = .ok (.iload_n 1, 1) := by decide +kernel
theorem dX16_next_158 : decode cX16_next 158 = .ok (.invokestatic 162, 3) := by decide +kernel
theorem dX16_next_161 : decode cX16_next 161 = .ok (.ifCond .eq 79, 3) := by decide +kernel
theorem dX16_next_164 : decode cX16_next 164 = .ok (.aload_n 0, 1) := by decide +kernel
theorem dX16_next_165 : decode cX16_next 165 = .ok (.iconst 0, 1) := by decide +kernel
theorem dX16_next_166 : decode cX16_next 166 = .ok (.putfield 165, 3) := by decide +kernel
theorem dX16_next_169 : decode cX16_next 169 = .ok (.aload_n 0, 1) := by decide +kernel
theorem dX16_next_170 : decode cX16_next 170 = .ok (.aload_n 0, 1) := by decide +kernel
theorem dX16_next_171 : decode cX16_next 171 = .ok (.getfield 141, 3) := by decide +kernel
theorem dX16_next_174 : decode cX16_next 174 = .ok (.invokevirtual 144, 3) := by decide +kernel
theorem dX16_next_177 : decode cX16_next 177 = .ok (.invokestatic 162, 3) := by decide +kernel
theorem dX16_next_180 : decode cX16_next 180 = .ok (.ifCond .eq 47, 3) := by decide +kernel
theorem dX16_next_183 : decode cX16_next 183 = .ok (.iload_n 2, 1) := by decide +kernel
theorem dX16_next_184 : decode cX16_next 184 = .ok (.iconst 4, 1) := by decide +kernel
theorem dX16_next_185 : decode cX16_next 185 = .ok (.if_icmp .ge 26, 3) := by decide +kernel
theorem dX16_next_188 : decode cX16_next 188 = .ok (.aload_n 0, 1) := by decide +kernel
theorem dX16_next_189 : decode cX16_next 189 = .ok (.bipush 10, 2) := by decide +kernel
theorem dX16_next_191 : decode cX16_next 191 = .ok (.aload_n 0, 1) := by decide +kernel
theorem dX16_next_192 : decode cX16_next 192 = .ok (.getfield 165, 3) := by decide +kernel
theorem dX16_next_195 : decode cX16_next 195 = .ok (.imul, 1) := by decide +kernel
theorem dX16_next_196 : decode cX16_next 196 = .ok (.aload_n 0, 1) := by decide +kernel
theorem dX16_next_197 : decode cX16_next 197 = .ok (.aload_n 0, 1) := by decide +kernel
theorem dX16_next_198 : decode cX16_next 198 = .ok (.getfield 141, 3) := by decide +kernel
theorem dX16_next_201 : decode cX16_next 201 = .ok (.invokevirtual 144, 3) := by decide +kernel
theorem dX16_next_204 : decode cX16_next 204 = .ok (.iadd, 1) := by decide +kernel
theorem dX16_next_205 : decode cX16_next 205 = .ok (.bipush 48, 2) := by decide +kernel
theorem dX16_next_207 : decode cX16_next 207 = .ok (.isub, 1) := by decide +kernel
theorem dX16_next_208 : decode cX16_next 208 = .ok (.putfield 165, 3) := by decide +kernel
theorem dX16_next_211 : decode cX16_next 211 = .ok (.iinc 2 1, 3) := by decide +kernel
theorem dX16_next_214 : decode cX16_next 214 = .ok (.aload_n 0, 1) := by decide +kernel
theorem dX16_next_215 : decode cX16_next 215 = .ok (.dup, 1) := by decide +kernel
theorem dX16_next_216 : decode cX16_next 216 = .ok (.getfield 141, 3) := by decide +kernel
theorem dX16_next_219 : decode cX16_next 219 = .ok (.iconst 1, 1) := by decide +kernel
theorem dX16_next_220 : decode cX16_next 220 = .ok (.iadd, 1) := by decide +kernel
theorem dX16_next_221 : decode cX16_next 221 = .ok (.putfield 141, 3) := by decide +kernel
theorem dX16_next_224 : decode cX16_next 224 = .ok (.goto (-55), 3) := by decide +kernel
theorem dX16_next_227 : decode cX16_next 227 = .ok (.iload_n 2, 1) := by decide +kernel
theorem dX16_next_228 : decode cX16_next 228 = .ok (.iconst 5, 1) := by decide +kernel
theorem dX16_next_229 : decode cX16_next 229 = .ok (.if_icmp .ge 61, 3) := by decide +kernel
theorem dX16_next_232 : decode cX16_next 232 = .ok (.aload_n 0, 1) := by decide +kernel
theorem dX16_next_233 : decode cX16_next 233 = .ok (.iconst 3, 1) := by decide +kernel
theorem dX16_next_234 : decode cX16_next 234 = .ok (.putfield 148, 3) := by decide +kernel
theorem dX16_next_237 : decode cX16_next 237 = .ok (.goto 53, 3) := by decide +kernel
theorem dX16_next_240 : decode cX16_next 240 = .ok (.iload_n 1, 1) := by decide +kernel
theorem dX16_next_241 : decode cX16_next 241 = .ok (.bipush 59, 2) := by decide +kernel
theorem dX16_next_243 : decode cX16_next 243 = .ok (.if_icmp .eq 27, 3) := by decide +kernel
theorem dX16_next_246 : decode cX16_next 246 = .ok (.iload_n 1, 1) := by decide +kernel
theorem dX16_next_247 : decode cX16_next 247 = .ok (.bipush 44, 2) := by decide +kernel
theorem dX16_next_249 : decode cX16_next 249 = .ok (.if_icmp .eq 21, 3) := by decide +kernel
theorem dX16_next_252 : decode cX16_next 252 = .ok (.iload_n 1, 1) := by decide +kernel
theorem dX16_next_253 : decode cX16_next 253 = .ok (.bipush 61, 2) := by decide +kernel
theorem dX16_next_255 : decode cX16_next 255 = .ok (.if_icmp .eq 15, 3) := by decide +kernel
theorem dX16_next_258 : decode cX16_next 258 = .ok (.iload_n 1, 1) := by decide +kernel
theorem dX16_next_259 : decode cX16_next 259 = .ok (.bipush 60, 2) := by decide +kernel
theorem dX16_next_261 : decode cX16_next 261 = .ok (.if_icmp .eq 9, 3) := by decide +kernel
theorem dX16_next_264 : decode cX16_next 264 = .ok (.iload_n 1, 1) := by decide +kernel
theorem dX16_next_265 : decode cX16_next 265 = .ok (.bipush 62, 2) := by decide +kernel
theorem dX16_next_267 : decode cX16_next 267 = .ok (.if_icmp .ne 23, 3) := by decide +kernel
theorem dX16_next_270 : decode cX16_next 270 = .ok (.aload_n 0, 1) := by decide +kernel
theorem dX16_next_271 : decode cX16_next 271 = .ok (.iconst 4, 1) := by decide +kernel
theorem dX16_next_272 : decode cX16_next 272 = .ok (.putfield 148, 3) := by decide +kernel
theorem dX16_next_275 : decode cX16_next 275 = .ok (.aload_n 0, 1) := by decide +kernel
theorem dX16_next_276 : decode cX16_next 276 = .ok (.iload_n 1, 1) := by decide +kernel
theorem dX16_next_277 : decode cX16_next 277 = .ok (.putfield 151, 3) := by decide +kernel
theorem dX16_next_280 : decode cX16_next 280 = .ok (.aload_n 0, 1) := by decide +kernel
theorem dX16_next_281 : decode cX16_next 281 = .ok (.dup, 1) := by decide +kernel
theorem dX16_next_282 : decode cX16_next 282 = .ok (.getfield 141, 3) := by decide +kernel
theorem dX16_next_285 : decode cX16_next 285 = .ok (.iconst 1, 1) := by decide +kernel
theorem dX16_next_286 : decode cX16_next 286 = .ok (.iadd, 1) := by decide +kernel
theorem dX16_next_287 : decode cX16_next 287 = .ok (.putfield 141, 3) := by decide +kernel
theorem dX16_next_290 : decode cX16_next 290 = .ok (.return_, 1) := by decide +kernel
theorem dX16_isWord_0 : decode cX16_isWord 0 = .ok (.aload_n 0, 1) := by decide +kernel
theorem dX16_isWord_1 : decode cX16_isWord 1 = .ok (.getfield 148, 3) := by decide +kernel
theorem dX16_isWord_4 : decode cX16_isWord 4 = .ok (.iconst 2, 1) := by decide +kernel
theorem dX16_isWord_5 : decode cX16_isWord 5 = .ok (.if_icmp .ne 19, 3) := by decide +kernel
theorem dX16_isWord_8 : decode cX16_isWord 8 = .ok (.aload_n 0, 1) := by decide +kernel
theorem dX16_isWord_9 : decode cX16_isWord 9 = .ok (.getfield 158, 3) := by decide +kernel
theorem dX16_isWord_12 : decode cX16_isWord 12 = .ok (.aload_n 1, 1) := by decide +kernel
theorem dX16_isWord_13 : decode cX16_isWord 13 = .ok (.invokestatic 168, 3) := by decide +kernel
theorem dX16_isWord_16 : decode cX16_isWord 16 = .ok (.lcmp, 1) := by decide +kernel
theorem dX16_isWord_17 : decode cX16_isWord 17 = .ok (.ifCond .ne 7, 3) := by decide +kernel
theorem dX16_isWord_20 : decode cX16_isWord 20 = .ok (.iconst 1, 1) := by decide +kernel
theorem dX16_isWord_21 : decode cX16_isWord 21 = .ok (.goto 4, 3) := by decide +kernel
theorem dX16_isWord_24 : decode cX16_isWord 24 = .ok (.iconst 0, 1) := by decide +kernel
theorem dX16_isWord_25 : decode cX16_isWord 25 = .ok (.ireturn, 1) := by decide +kernel
theorem dX16_is_0 : decode cX16_is 0 = .ok (.aload_n 0, 1) := by decide +kernel
theorem dX16_is_1 : decode cX16_is 1 = .ok (.getfield 148, 3) := by decide +kernel
theorem dX16_is_4 : decode cX16_is 4 = .ok (.iconst 4, 1) := by decide +kernel
theorem dX16_is_5 : decode cX16_is 5 = .ok (.if_icmp .ne 15, 3) := by decide +kernel
theorem dX16_is_8 : decode cX16_is 8 = .ok (.aload_n 0, 1) := by decide +kernel
theorem dX16_is_9 : decode cX16_is 9 = .ok (.getfield 151, 3) := by decide +kernel
theorem dX16_is_12 : decode cX16_is 12 = .ok (.iload_n 1, 1) := by decide +kernel
theorem dX16_is_13 : decode cX16_is 13 = .ok (.if_icmp .ne 7, 3) := by decide +kernel
theorem dX16_is_16 : decode cX16_is 16 = .ok (.iconst 1, 1) := by decide +kernel
theorem dX16_is_17 : decode cX16_is 17 = .ok (.goto 4, 3) := by decide +kernel
theorem dX16_is_20 : decode cX16_is 20 = .ok (.iconst 0, 1) := by decide +kernel
theorem dX16_is_21 : decode cX16_is 21 = .ok (.ireturn, 1) := by decide +kernel
theorem dX16_isName_0 : decode cX16_isName 0 = .ok (.aload_n 0, 1) := by decide +kernel
theorem dX16_isName_1 : decode cX16_isName 1 = .ok (.getfield 148, 3) := by decide +kernel
theorem dX16_isName_4 : decode cX16_isName 4 = .ok (.iconst 2, 1) := by decide +kernel
theorem dX16_isName_5 : decode cX16_isName 5 = .ok (.if_icmp .ne 70, 3) := by decide +kernel
theorem dX16_isName_8 : decode cX16_isName 8 = .ok (.aload_n 0, 1) := by decide +kernel
theorem dX16_isName_9 : decode cX16_isName 9 = .ok (.ldc 172, 2) := by decide +kernel
theorem dX16_isName_11 : decode cX16_isName 11 = .ok (.invokevirtual 174, 3) := by decide +kernel
theorem dX16_isName_14 : decode cX16_isName 14 = .ok (.ifCond .ne 61, 3) := by decide +kernel
theorem dX16_isName_17 : decode cX16_isName 17 = .ok (.aload_n 0, 1) := by decide +kernel
theorem dX16_isName_18 : decode cX16_isName 18 = .ok (.ldc 178, 2) := by decide +kernel
theorem dX16_isName_20 : decode cX16_isName 20 = .ok (.invokevirtual 174, 3) := by decide +kernel
theorem dX16_isName_23 : decode cX16_isName 23 = .ok (.ifCond .ne 52, 3) := by decide +kernel
theorem dX16_isName_26 : decode cX16_isName 26 = .ok (.aload_n 0, 1) := by decide +kernel
theorem dX16_isName_27 : decode cX16_isName 27 = .ok (.ldc 180, 2) := by decide +kernel
theorem dX16_isName_29 : decode cX16_isName 29 = .ok (.invokevirtual 174, 3) := by decide +kernel
theorem dX16_isName_32 : decode cX16_isName 32 = .ok (.ifCond .ne 43, 3) := by decide +kernel
theorem dX16_isName_35 : decode cX16_isName 35 = .ok (.aload_n 0, 1) := by decide +kernel
theorem dX16_isName_36 : decode cX16_isName 36 = .ok (.ldc 182, 2) := by decide +kernel
theorem dX16_isName_38 : decode cX16_isName 38 = .ok (.invokevirtual 174, 3) := by decide +kernel
theorem dX16_isName_41 : decode cX16_isName 41 = .ok (.ifCond .ne 34, 3) := by decide +kernel
theorem dX16_isName_44 : decode cX16_isName 44 = .ok (.aload_n 0, 1) := by decide +kernel
theorem dX16_isName_45 : decode cX16_isName 45 = .ok (.ldc 184, 2) := by decide +kernel
theorem dX16_isName_47 : decode cX16_isName 47 = .ok (.invokevirtual 174, 3) := by decide +kernel
theorem dX16_isName_50 : decode cX16_isName 50 = .ok (.ifCond .ne 25, 3) := by decide +kernel
theorem dX16_isName_53 : decode cX16_isName 53 = .ok (.aload_n 0, 1) := by decide +kernel
theorem dX16_isName_54 : decode cX16_isName 54 = .ok (.ldc 186, 2) := by decide +kernel
theorem dX16_isName_56 : decode cX16_isName 56 = .ok (.invokevirtual 174, 3) := by decide +kernel
theorem dX16_isName_59 : decode cX16_isName 59 = .ok (.ifCond .ne 16, 3) := by decide +kernel
theorem dX16_isName_62 : decode cX16_isName 62 = .ok (.aload_n 0, 1) := by decide +kernel
theorem dX16_isName_63 : decode cX16_isName 63 = .ok (.ldc 188, 2) := by decide +kernel
theorem dX16_isName_65 : decode cX16_isName 65 = .ok (.invokevirtual 174, 3) := by decide +kernel
theorem dX16_isName_68 : decode cX16_isName 68 = .ok (.ifCond .ne 7, 3) := by decide +kernel
theorem dX16_isName_71 : decode cX16_isName 71 = .ok (.iconst 1, 1) := by decide +kernel
theorem dX16_isName_72 : decode cX16_isName 72 = .ok (.goto 4, 3) := by decide +kernel
theorem dX16_isName_75 : decode cX16_isName 75 = .ok (.iconst 0, 1) := by decide +kernel
theorem dX16_isName_76 : decode cX16_isName 76 = .ok (.ireturn, 1) := by decide +kernel
theorem dX16_needWord_0 : decode cX16_needWord 0 = .ok (.aload_n 0, 1) := by decide +kernel
theorem dX16_needWord_1 : decode cX16_needWord 1 = .ok (.aload_n 1, 1) := by decide +kernel
theorem dX16_needWord_2 : decode cX16_needWord 2 = .ok (.invokevirtual 174, 3) := by decide +kernel
theorem dX16_needWord_5 : decode cX16_needWord 5 = .ok (.ifCond .ne 9, 3) := by decide +kernel
theorem dX16_needWord_8 : decode cX16_needWord 8 = .ok (.aload_n 0, 1) := by decide +kernel
theorem dX16_needWord_9 : decode cX16_needWord 9 = .ok (.iconst 1, 1) := by decide +kernel
theorem dX16_needWord_10 : decode cX16_needWord 10 = .ok (.invokevirtual 189, 3) := by decide +kernel
theorem dX16_needWord_13 : decode cX16_needWord 13 = .ok (.athrow, 1) := by decide +kernel
theorem dX16_needWord_14 : decode cX16_needWord 14 = .ok (.aload_n 0, 1) := by decide +kernel
theorem dX16_needWord_15 : decode cX16_needWord 15 = .ok (.invokevirtual 192, 3) := by decide +kernel
theorem dX16_needWord_18 : decode cX16_needWord 18 = .ok (.return_, 1) := by decide +kernel
theorem dX16_readBook_0 : decode cX16_readBook 0 = .ok (.iconst 1, 1) := by decide +kernel
theorem dX16_readBook_1 : decode cX16_readBook 1 = .ok (.istore_n 1, 1) := by decide +kernel
theorem dX16_readBook_2 : decode cX16_readBook 2 = .ok (.iload_n 1, 1) := by decide +kernel
theorem dX16_readBook_3 : decode cX16_readBook 3 = .ok (.ifCond .eq 59, 3) := by decide +kernel
theorem dX16_readBook_6 : decode cX16_readBook 6 = .ok (.aload_n 0, 1) := by decide +kernel
theorem dX16_readBook_7 : decode cX16_readBook 7 = .ok (.ldc 172, 2) := by decide +kernel
theorem dX16_readBook_9 : decode cX16_readBook 9 = .ok (.invokevirtual 174, 3) := by decide +kernel
theorem dX16_readBook_12 : decode cX16_readBook 12 = .ok (.ifCond .eq 10, 3) := by decide +kernel
theorem dX16_readBook_15 : decode cX16_readBook 15 = .ok (.aload_n 0, 1) := by decide +kernel
theorem dX16_readBook_16 : decode cX16_readBook 16 = .ok (.invokevirtual 195, 3) := by decide +kernel
theorem dX16_readBook_19 : decode cX16_readBook 19 = .ok (.goto 25, 3) := by decide +kernel
theorem dX16_readBook_22 : decode cX16_readBook 22 = .ok (.aload_n 0, 1) := by decide +kernel
theorem dX16_readBook_23 : decode cX16_readBook 23 = .ok (.ldc 178, 2) := by decide +kernel
theorem dX16_readBook_25 : decode cX16_readBook 25 = .ok (.invokevirtual 174, 3) := by decide +kernel
theorem dX16_readBook_28 : decode cX16_readBook 28 = .ok (.ifCond .eq 10, 3) := by decide +kernel
theorem dX16_readBook_31 : decode cX16_readBook 31 = .ok (.aload_n 0, 1) := by decide +kernel
theorem dX16_readBook_32 : decode cX16_readBook 32 = .ok (.invokevirtual 198, 3) := by decide +kernel
theorem dX16_readBook_35 : decode cX16_readBook 35 = .ok (.goto 9, 3) := by decide +kernel
theorem dX16_readBook_38 : decode cX16_readBook 38 = .ok (.aload_n 0, 1) := by decide +kernel
theorem dX16_readBook_39 : decode cX16_readBook 39 = .ok (.iconst 1, 1) := by decide +kernel
theorem dX16_readBook_40 : decode cX16_readBook 40 = .ok (.invokevirtual 189, 3) := by decide +kernel
theorem dX16_readBook_43 : decode cX16_readBook 43 = .ok (.athrow, 1) := by decide +kernel
theorem dX16_readBook_44 : decode cX16_readBook 44 = .ok (.aload_n 0, 1) := by decide +kernel
theorem dX16_readBook_45 : decode cX16_readBook 45 = .ok (.bipush 59, 2) := by decide +kernel
theorem dX16_readBook_47 : decode cX16_readBook 47 = .ok (.invokevirtual 201, 3) := by decide +kernel
theorem dX16_readBook_50 : decode cX16_readBook 50 = .ok (.istore_n 1, 1) := by decide +kernel
theorem dX16_readBook_51 : decode cX16_readBook 51 = .ok (.iload_n 1, 1) := by decide +kernel
theorem dX16_readBook_52 : decode cX16_readBook 52 = .ok (.ifCond .eq (-50), 3) := by decide +kernel
theorem dX16_readBook_55 : decode cX16_readBook 55 = .ok (.aload_n 0, 1) := by decide +kernel
theorem dX16_readBook_56 : decode cX16_readBook 56 = .ok (.invokevirtual 192, 3) := by decide +kernel
theorem dX16_readBook_59 : decode cX16_readBook 59 = .ok (.goto (-57), 3) := by decide +kernel
theorem dX16_readBook_62 : decode cX16_readBook 62 = .ok (.aload_n 0, 1) := by decide +kernel
theorem dX16_readBook_63 : decode cX16_readBook 63 = .ok (.getfield 148, 3) := by decide +kernel
theorem dX16_readBook_66 : decode cX16_readBook 66 = .ok (.iconst 1, 1) := by decide +kernel
theorem dX16_readBook_67 : decode cX16_readBook 67 = .ok (.if_icmp .eq 9, 3) := by decide +kernel
theorem dX16_readBook_70 : decode cX16_readBook 70 = .ok (.aload_n 0, 1) := by decide +kernel
theorem dX16_readBook_71 : decode cX16_readBook 71 = .ok (.iconst 1, 1) := by decide +kernel
theorem dX16_readBook_72 : decode cX16_readBook 72 = .ok (.invokevirtual 189, 3) := by decide +kernel
theorem dX16_readBook_75 : decode cX16_readBook 75 = .ok (.athrow, 1) := by decide +kernel
theorem dX16_readBook_76 : decode cX16_readBook 76 = .ok (.return_, 1) := by decide +kernel
theorem dX16_readField_0 : decode cX16_readField 0 = .ok (.aload_n 0, 1) := by decide +kernel
theorem dX16_readField_1 : decode cX16_readField 1 = .ok (.invokevirtual 192, 3) := by decide +kernel
theorem dX16_readField_4 : decode cX16_readField 4 = .ok (.aload_n 0, 1) := by decide +kernel
theorem dX16_readField_5 : decode cX16_readField 5 = .ok (.invokevirtual 204, 3) := by decide +kernel
theorem dX16_readField_8 : decode cX16_readField 8 = .ok (.ifCond .ne 9, 3) := by decide +kernel
theorem dX16_readField_11 : decode cX16_readField 11 = .ok (.aload_n 0, 1) := by decide +kernel
theorem dX16_readField_12 : decode cX16_readField 12 = .ok (.iconst 1, 1) := by decide +kernel
theorem dX16_readField_13 : decode cX16_readField 13 = .ok (.invokevirtual 189, 3) := by decide +kernel
theorem dX16_readField_16 : decode cX16_readField 16 = .ok (.athrow, 1) := by decide +kernel
theorem dX16_readField_17 : decode cX16_readField 17 = .ok (.aload_n 0, 1) := by decide +kernel
theorem dX16_readField_18 : decode cX16_readField 18 = .ok (.getfield 208, 3) := by decide +kernel
theorem dX16_readField_21 : decode cX16_readField 21 = .ok (.aload_n 0, 1) := by decide +kernel
theorem dX16_readField_22 : decode cX16_readField 22 = .ok (.getfield 158, 3) := by decide +kernel
theorem dX16_readField_25 : decode cX16_readField 25 = .ok (.invokevirtual 212, 3) := by decide +kernel
theorem dX16_readField_28 : decode cX16_readField 28 = .ok (.iconst (-1), 1) := by decide +kernel
theorem dX16_readField_29 : decode cX16_readField 29 = .ok (.if_icmp .eq 9, 3) := by decide +kernel
theorem dX16_readField_32 : decode cX16_readField 32 = .ok (.aload_n 0, 1) := by decide +kernel
theorem dX16_readField_33 : decode cX16_readField 33 = .ok (.iconst 3, 1) := by decide +kernel
theorem dX16_readField_34 : decode cX16_readField 34 = .ok (.invokevirtual 189, 3) := by decide +kernel
theorem dX16_readField_37 : decode cX16_readField 37 = .ok (.athrow, 1) := by decide +kernel
theorem dX16_readField_38 : decode cX16_readField 38 = .ok (.aload_n 0, 1) := by decide +kernel
theorem dX16_readField_39 : decode cX16_readField 39 = .ok (.getfield 208, 3) := by decide +kernel
theorem dX16_readField_42 : decode cX16_readField 42 = .ok (.getfield 218, 3) := by decide +kernel
theorem dX16_readField_45 : decode cX16_readField 45 = .ok (.bipush 6, 2) := by decide +kernel
theorem dX16_readField_47 : decode cX16_readField 47 = .ok (.if_icmp .ne 9, 3) := by decide +kernel
theorem dX16_readField_50 : decode cX16_readField 50 = .ok (.aload_n 0, 1) := by decide +kernel
theorem dX16_readField_51 : decode cX16_readField 51 = .ok (.iconst 5, 1) := by decide +kernel
theorem dX16_readField_52 : decode cX16_readField 52 = .ok (.invokevirtual 189, 3) := by decide +kernel
theorem dX16_readField_55 : decode cX16_readField 55 = .ok (.athrow, 1) := by decide +kernel
theorem dX16_readField_56 : decode cX16_readField 56 = .ok (.aload_n 0, 1) := by decide +kernel
theorem dX16_readField_57 : decode cX16_readField 57 = .ok (.getfield 208, 3) := by decide +kernel
theorem dX16_readField_60 : decode cX16_readField 60 = .ok (.getfield 218, 3) := by decide +kernel
theorem dX16_readField_63 : decode cX16_readField 63 = .ok (.istore_n 1, 1) := by decide +kernel
theorem dX16_readField_64 : decode cX16_readField 64 = .ok (.aload_n 0, 1) := by decide +kernel
theorem dX16_readField_65 : decode cX16_readField 65 = .ok (.getfield 208, 3) := by decide +kernel
theorem dX16_readField_68 : decode cX16_readField 68 = .ok (.getfield 221, 3) := by decide +kernel
theorem dX16_readField_71 : decode cX16_readField 71 = .ok (.iload_n 1, 1) := by decide +kernel
theorem dX16_readField_72 : decode cX16_readField 72 = .ok (.aload_n 0, 1) := by decide +kernel
theorem dX16_readField_73 : decode cX16_readField 73 = .ok (.getfield 158, 3) := by decide +kernel
theorem dX16_readField_76 : decode cX16_readField 76 = .ok (.lastore, 1) := by decide +kernel
theorem dX16_readField_77 : decode cX16_readField 77 = .ok (.aload_n 0, 1) := by decide +kernel
theorem dX16_readField_78 : decode cX16_readField 78 = .ok (.getfield 208, 3) := by decide +kernel
theorem dX16_readField_81 : decode cX16_readField 81 = .ok (.dup, 1) := by decide +kernel
theorem dX16_readField_82 : decode cX16_readField 82 = .ok (.getfield 218, 3) := by decide +kernel
theorem dX16_readField_85 : decode cX16_readField 85 = .ok (.iconst 1, 1) := by decide +kernel
theorem dX16_readField_86 : decode cX16_readField 86 = .ok (.iadd, 1) := by decide +kernel
theorem dX16_readField_87 : decode cX16_readField 87 = .ok (.putfield 218, 3) := by decide +kernel
theorem dX16_readField_90 : decode cX16_readField 90 = .ok (.aload_n 0, 1) := by decide +kernel
theorem dX16_readField_91 : decode cX16_readField 91 = .ok (.invokevirtual 192, 3) := by decide +kernel
theorem dX16_readField_94 : decode cX16_readField 94 = .ok (.aload_n 0, 1) := by decide +kernel
theorem dX16_readField_95 : decode cX16_readField 95 = .ok (.ldc 225, 2) := by decide +kernel
theorem dX16_readField_97 : decode cX16_readField 97 = .ok (.invokevirtual 227, 3) := by decide +kernel
theorem dX16_readField_100 : decode cX16_readField 100 = .ok (.aload_n 0, 1) := by decide +kernel
theorem dX16_readField_101 : decode cX16_readField 101 = .ok (.getfield 148, 3) := by decide +kernel
theorem dX16_readField_104 : decode cX16_readField 104 = .ok (.iconst 3, 1) := by decide +kernel
theorem dX16_readField_105 : decode cX16_readField 105 = .ok (.if_icmp .eq 9, 3) := by decide +kernel
theorem dX16_readField_108 : decode cX16_readField 108 = .ok (.aload_n 0, 1) := by decide +kernel
theorem dX16_readField_109 : decode cX16_readField 109 = .ok (.iconst 1, 1) := by decide +kernel
theorem dX16_readField_110 : decode cX16_readField 110 = .ok (.invokevirtual 189, 3) := by decide +kernel
theorem dX16_readField_113 : decode cX16_readField 113 = .ok (.athrow, 1) := by decide +kernel
theorem dX16_readField_114 : decode cX16_readField 114 = .ok (.aload_n 0, 1) := by decide +kernel
theorem dX16_readField_115 : decode cX16_readField 115 = .ok (.getfield 165, 3) := by decide +kernel
theorem dX16_readField_118 : decode cX16_readField 118 = .ok (.iconst 1, 1) := by decide +kernel
theorem dX16_readField_119 : decode cX16_readField 119 = .ok (.bipush 9, 2) := by decide +kernel
theorem dX16_readField_121 : decode cX16_readField 121 = .ok (.invokestatic 231, 3) := by decide +kernel
theorem dX16_readField_124 : decode cX16_readField 124 = .ok (.ifCond .ne 9, 3) := by decide +kernel
theorem dX16_readField_127 : decode cX16_readField 127 = .ok (.aload_n 0, 1) := by decide +kernel
theorem dX16_readField_128 : decode cX16_readField 128 = .ok (.iconst 4, 1) := by decide +kernel
theorem dX16_readField_129 : decode cX16_readField 129 = .ok (.invokevirtual 189, 3) := by decide +kernel
theorem dX16_readField_132 : decode cX16_readField 132 = .ok (.athrow, 1) := by decide +kernel
theorem dX16_readField_133 : decode cX16_readField 133 = .ok (.aload_n 0, 1) := by decide +kernel
theorem dX16_readField_134 : decode cX16_readField 134 = .ok (.getfield 165, 3) := by decide +kernel
theorem dX16_readField_137 : decode cX16_readField 137 = .ok (.iconst 1, 1) := by decide +kernel
theorem dX16_readField_138 : decode cX16_readField 138 = .ok (.iadd, 1) := by decide +kernel
theorem dX16_readField_139 : decode cX16_readField 139 = .ok (.istore_n 2, 1) := by decide +kernel
theorem dX16_readField_140 : decode cX16_readField 140 = .ok (.iconst 0, 1) := by decide +kernel
theorem dX16_readField_141 : decode cX16_readField 141 = .ok (.istore_n 3, 1) := by decide +kernel
theorem dX16_readField_142 : decode cX16_readField 142 = .ok (.iload_n 3, 1) := by decide +kernel
theorem dX16_readField_143 : decode cX16_readField 143 = .ok (.iload_n 1, 1) := by decide +kernel
theorem dX16_readField_144 : decode cX16_readField 144 = .ok (.if_icmp .ge 23, 3) := by decide +kernel
theorem dX16_readField_147 : decode cX16_readField 147 = .ok (.iload_n 2, 1) := by decide +kernel
theorem dX16_readField_148 : decode cX16_readField 148 = .ok (.aload_n 0, 1) := by decide +kernel
theorem dX16_readField_149 : decode cX16_readField 149 = .ok (.getfield 208, 3) := by decide +kernel
theorem dX16_readField_152 : decode cX16_readField 152 = .ok (.getfield 235, 3) := by decide +kernel
theorem dX16_readField_155 : decode cX16_readField 155 = .ok (.iload_n 3, 1) := by decide +kernel
theorem dX16_readField_156 : decode cX16_readField 156 = .ok (.iaload, 1) := by decide +kernel
theorem dX16_readField_157 : decode cX16_readField 157 = .ok (.iconst 1, 1) := by decide +kernel
theorem dX16_readField_158 : decode cX16_readField 158 = .ok (.iadd, 1) := by decide +kernel
theorem dX16_readField_159 : decode cX16_readField 159 = .ok (.imul, 1) := by decide +kernel
theorem dX16_readField_160 : decode cX16_readField 160 = .ok (.istore_n 2, 1) := by decide +kernel
theorem dX16_readField_161 : decode cX16_readField 161 = .ok (.iinc 3 1, 3) := by decide +kernel
theorem dX16_readField_164 : decode cX16_readField 164 = .ok (.goto (-22), 3) := by decide +kernel
theorem dX16_readField_167 : decode cX16_readField 167 = .ok (.iload_n 2, 1) := by decide +kernel
theorem dX16_readField_168 : decode cX16_readField 168 = .ok (.sipush 20000, 3) := by decide +kernel
theorem dX16_readField_171 : decode cX16_readField 171 = .ok (.if_icmp .le 9, 3) := by decide +kernel
theorem dX16_readField_174 : decode cX16_readField 174 = .ok (.aload_n 0, 1) := by decide +kernel
theorem dX16_readField_175 : decode cX16_readField 175 = .ok (.iconst 5, 1) := by decide +kernel
theorem dX16_readField_176 : decode cX16_readField 176 = .ok (.invokevirtual 189, 3) := by decide +kernel
theorem dX16_readField_179 : decode cX16_readField 179 = .ok (.athrow, 1) := by decide +kernel
theorem dX16_readField_180 : decode cX16_readField 180 = .ok (.aload_n 0, 1) := by decide +kernel
theorem dX16_readField_181 : decode cX16_readField 181 = .ok (.getfield 208, 3) := by decide +kernel
theorem dX16_readField_184 : decode cX16_readField 184 = .ok (.getfield 235, 3) := by decide +kernel
theorem dX16_readField_187 : decode cX16_readField 187 = .ok (.iload_n 1, 1) := by decide +kernel
theorem dX16_readField_188 : decode cX16_readField 188 = .ok (.aload_n 0, 1) := by decide +kernel
theorem dX16_readField_189 : decode cX16_readField 189 = .ok (.getfield 165, 3) := by decide +kernel
theorem dX16_readField_192 : decode cX16_readField 192 = .ok (.iastore, 1) := by decide +kernel
theorem dX16_readField_193 : decode cX16_readField 193 = .ok (.aload_n 0, 1) := by decide +kernel
theorem dX16_readField_194 : decode cX16_readField 194 = .ok (.invokevirtual 192, 3) := by decide +kernel
theorem dX16_readField_197 : decode cX16_readField 197 = .ok (.aload_n 0, 1) := by decide +kernel
theorem dX16_readField_198 : decode cX16_readField 198 = .ok (.ldc 237, 2) := by decide +kernel
theorem dX16_readField_200 : decode cX16_readField 200 = .ok (.invokevirtual 227, 3) := by decide +kernel
theorem dX16_readField_203 : decode cX16_readField 203 = .ok (.aload_n 0, 1) := by decide +kernel
theorem dX16_readField_204 : decode cX16_readField 204 = .ok (.getfield 148, 3) := by decide +kernel
theorem dX16_readField_207 : decode cX16_readField 207 = .ok (.iconst 3, 1) := by decide +kernel
theorem dX16_readField_208 : decode cX16_readField 208 = .ok (.if_icmp .eq 9, 3) := by decide +kernel
theorem dX16_readField_211 : decode cX16_readField 211 = .ok (.aload_n 0, 1) := by decide +kernel
theorem dX16_readField_212 : decode cX16_readField 212 = .ok (.iconst 1, 1) := by decide +kernel
theorem dX16_readField_213 : decode cX16_readField 213 = .ok (.invokevirtual 189, 3) := by decide +kernel
theorem dX16_readField_216 : decode cX16_readField 216 = .ok (.athrow, 1) := by decide +kernel
theorem dX16_readField_217 : decode cX16_readField 217 = .ok (.aload_n 0, 1) := by decide +kernel
theorem dX16_readField_218 : decode cX16_readField 218 = .ok (.getfield 165, 3) := by decide +kernel
theorem dX16_readField_221 : decode cX16_readField 221 = .ok (.iconst 1, 1) := by decide +kernel
theorem dX16_readField_222 : decode cX16_readField 222 = .ok (.bipush 9, 2) := by decide +kernel
theorem dX16_readField_224 : decode cX16_readField 224 = .ok (.invokestatic 231, 3) := by decide +kernel
theorem dX16_readField_227 : decode cX16_readField 227 = .ok (.ifCond .ne 9, 3) := by decide +kernel
theorem dX16_readField_230 : decode cX16_readField 230 = .ok (.aload_n 0, 1) := by decide +kernel
theorem dX16_readField_231 : decode cX16_readField 231 = .ok (.iconst 4, 1) := by decide +kernel
theorem dX16_readField_232 : decode cX16_readField 232 = .ok (.invokevirtual 189, 3) := by decide +kernel
theorem dX16_readField_235 : decode cX16_readField 235 = .ok (.athrow, 1) := by decide +kernel
theorem dX16_readField_236 : decode cX16_readField 236 = .ok (.aload_n 0, 1) := by decide +kernel
theorem dX16_readField_237 : decode cX16_readField 237 = .ok (.getfield 208, 3) := by decide +kernel
theorem dX16_readField_240 : decode cX16_readField 240 = .ok (.getfield 239, 3) := by decide +kernel
theorem dX16_readField_243 : decode cX16_readField 243 = .ok (.iload_n 1, 1) := by decide +kernel
theorem dX16_readField_244 : decode cX16_readField 244 = .ok (.aload_n 0, 1) := by decide +kernel
theorem dX16_readField_245 : decode cX16_readField 245 = .ok (.getfield 165, 3) := by decide +kernel
theorem dX16_readField_248 : decode cX16_readField 248 = .ok (.iastore, 1) := by decide +kernel
theorem dX16_readField_249 : decode cX16_readField 249 = .ok (.aload_n 0, 1) := by decide +kernel
theorem dX16_readField_250 : decode cX16_readField 250 = .ok (.invokevirtual 192, 3) := by decide +kernel
theorem dX16_readField_253 : decode cX16_readField 253 = .ok (.return_, 1) := by decide +kernel
theorem dX16_readNever_0 : decode cX16_readNever 0 = .ok (.aload_n 0, 1) := by decide +kernel
theorem dX16_readNever_1 : decode cX16_readNever 1 = .ok (.getfield 208, 3) := by decide +kernel
theorem dX16_readNever_4 : decode cX16_readNever 4 = .ok (.getfield 241, 3) := by decide +kernel
theorem dX16_readNever_7 : decode cX16_readNever 7 = .ok (.bipush 12, 2) := by decide +kernel
theorem dX16_readNever_9 : decode cX16_readNever 9 = .ok (.if_icmp .ne 9, 3) := by decide +kernel
theorem dX16_readNever_12 : decode cX16_readNever 12 = .ok (.aload_n 0, 1) := by decide +kernel
theorem dX16_readNever_13 : decode cX16_readNever 13 = .ok (.iconst 5, 1) := by decide +kernel
theorem dX16_readNever_14 : decode cX16_readNever 14 = .ok (.invokevirtual 189, 3) := by decide +kernel
theorem dX16_readNever_17 : decode cX16_readNever 17 = .ok (.athrow, 1) := by decide +kernel
theorem dX16_readNever_18 : decode cX16_readNever 18 = .ok (.aload_n 0, 1) := by decide +kernel
theorem dX16_readNever_19 : decode cX16_readNever 19 = .ok (.invokevirtual 192, 3) := by decide +kernel
theorem dX16_readNever_22 : decode cX16_readNever 22 = .ok (.aload_n 0, 1) := by decide +kernel
theorem dX16_readNever_23 : decode cX16_readNever 23 = .ok (.getfield 208, 3) := by decide +kernel
theorem dX16_readNever_26 : decode cX16_readNever 26 = .ok (.getfield 244, 3) := by decide +kernel
theorem dX16_readNever_29 : decode cX16_readNever 29 = .ok (.aload_n 0, 1) := by decide +kernel
theorem dX16_readNever_30 : decode cX16_readNever 30 = .ok (.getfield 208, 3) := by decide +kernel
theorem dX16_readNever_33 : decode cX16_readNever 33 = .ok (.getfield 241, 3) := by decide +kernel
theorem dX16_readNever_36 : decode cX16_readNever 36 = .ok (.aload_n 0, 1) := by decide +kernel
theorem dX16_readNever_37 : decode cX16_readNever 37 = .ok (.aload_n 0, 1) := by decide +kernel
theorem dX16_readNever_38 : decode cX16_readNever 38 = .ok (.getfield 208, 3) := by decide +kernel
theorem dX16_readNever_41 : decode cX16_readNever 41 = .ok (.invokevirtual 247, 3) := by decide +kernel
theorem dX16_readNever_44 : decode cX16_readNever 44 = .ok (.aastore, 1) := by decide +kernel
theorem dX16_readNever_45 : decode cX16_readNever 45 = .ok (.aload_n 0, 1) := by decide +kernel
theorem dX16_readNever_46 : decode cX16_readNever 46 = .ok (.getfield 208, 3) := by decide +kernel
theorem dX16_readNever_49 : decode cX16_readNever 49 = .ok (.dup, 1) := by decide +kernel
theorem dX16_readNever_50 : decode cX16_readNever 50 = .ok (.getfield 241, 3) := by decide +kernel
theorem dX16_readNever_53 : decode cX16_readNever 53 = .ok (.iconst 1, 1) := by decide +kernel
theorem dX16_readNever_54 : decode cX16_readNever 54 = .ok (.iadd, 1) := by decide +kernel
theorem dX16_readNever_55 : decode cX16_readNever 55 = .ok (.putfield 241, 3) := by decide +kernel
theorem dX16_readNever_58 : decode cX16_readNever 58 = .ok (.return_, 1) := by decide +kernel
theorem dX16_readName_0 : decode cX16_readName 0 = .ok (.aload_n 0, 1) := by decide +kernel
theorem dX16_readName_1 : decode cX16_readName 1 = .ok (.invokevirtual 204, 3) := by decide +kernel
theorem dX16_readName_4 : decode cX16_readName 4 = .ok (.ifCond .ne 9, 3) := by decide +kernel
theorem dX16_readName_7 : decode cX16_readName 7 = .ok (.aload_n 0, 1) := by decide +kernel
theorem dX16_readName_8 : decode cX16_readName 8 = .ok (.iconst 1, 1) := by decide +kernel
theorem dX16_readName_9 : decode cX16_readName 9 = .ok (.invokevirtual 189, 3) := by decide +kernel
theorem dX16_readName_12 : decode cX16_readName 12 = .ok (.athrow, 1) := by decide +kernel
theorem dX16_readName_13 : decode cX16_readName 13 = .ok (.aload_n 1, 1) := by decide +kernel
theorem dX16_readName_14 : decode cX16_readName 14 = .ok (.aload_n 0, 1) := by decide +kernel
theorem dX16_readName_15 : decode cX16_readName 15 = .ok (.getfield 158, 3) := by decide +kernel
theorem dX16_readName_18 : decode cX16_readName 18 = .ok (.invokevirtual 212, 3) := by decide +kernel
theorem dX16_readName_21 : decode cX16_readName 21 = .ok (.istore_n 2, 1) := by decide +kernel
theorem dX16_readName_22 : decode cX16_readName 22 = .ok (.iload_n 2, 1) := by decide +kernel
theorem dX16_readName_23 : decode cX16_readName 23 = .ok (.iconst (-1), 1) := by decide +kernel
theorem dX16_readName_24 : decode cX16_readName 24 = .ok (.if_icmp .ne 9, 3) := by decide +kernel
theorem dX16_readName_27 : decode cX16_readName 27 = .ok (.aload_n 0, 1) := by decide +kernel
theorem dX16_readName_28 : decode cX16_readName 28 = .ok (.iconst 2, 1) := by decide +kernel
theorem dX16_readName_29 : decode cX16_readName 29 = .ok (.invokevirtual 189, 3) := by decide +kernel
theorem dX16_readName_32 : decode cX16_readName 32 = .ok (.athrow, 1) := by decide +kernel
theorem dX16_readName_33 : decode cX16_readName 33 = .ok (.iload_n 2, 1) := by decide +kernel
theorem dX16_readName_34 : decode cX16_readName 34 = .ok (.ireturn, 1) := by decide +kernel
theorem dX16_readTest_0 : decode cX16_readTest 0 = .ok (.new 251, 3) := by decide +kernel
theorem dX16_readTest_3 : decode cX16_readTest 3 = .ok (.dup, 1) := by decide +kernel
theorem dX16_readTest_4 : decode cX16_readTest 4 = .ok (.invokespecial 253, 3) := by decide +kernel
theorem dX16_readTest_7 : decode cX16_readTest 7 = .ok (.astore_n 2, 1) := by decide +kernel
theorem dX16_readTest_8 : decode cX16_readTest 8 = .ok (.iconst 1, 1) := by decide +kernel
theorem dX16_readTest_9 : decode cX16_readTest 9 = .ok (.istore_n 3, 1) := by decide +kernel
theorem dX16_readTest_10 : decode cX16_readTest 10 = .ok (.iload_n 3, 1) := by decide +kernel
theorem dX16_readTest_11 : decode cX16_readTest 11 = .ok (.ifCond .eq 185, 3) := by decide +kernel
theorem dX16_readTest_14 : decode cX16_readTest 14 = .ok (.aload_n 0, 1) := by decide +kernel
theorem dX16_readTest_15 : decode cX16_readTest 15 = .ok (.aload_n 1, 1) := by decide +kernel
theorem dX16_readTest_16 : decode cX16_readTest 16 = .ok (.invokevirtual 254, 3) := by decide +kernel
theorem dX16_readTest_19 : decode cX16_readTest 19 = .ok (.istore 4, 2) := by decide +kernel
theorem dX16_readTest_21 : decode cX16_readTest 21 = .ok (.aload_n 2, 1) := by decide +kernel
theorem dX16_readTest_22 : decode cX16_readTest 22 = .ok (.getfield 258, 3) := by decide +kernel
theorem dX16_readTest_25 : decode cX16_readTest 25 = .ok (.bipush 12, 2) := by decide +kernel
theorem dX16_readTest_27 : decode cX16_readTest 27 = .ok (.if_icmp .ne 9, 3) := by decide +kernel
theorem dX16_readTest_30 : decode cX16_readTest 30 = .ok (.aload_n 0, 1) := by decide +kernel
theorem dX16_readTest_31 : decode cX16_readTest 31 = .ok (.iconst 5, 1) := by decide +kernel
theorem dX16_readTest_32 : decode cX16_readTest 32 = .ok (.invokevirtual 189, 3) := by decide +kernel
theorem dX16_readTest_35 : decode cX16_readTest 35 = .ok (.athrow, 1) := by decide +kernel
theorem dX16_readTest_36 : decode cX16_readTest 36 = .ok (.aload_n 2, 1) := by decide +kernel
theorem dX16_readTest_37 : decode cX16_readTest 37 = .ok (.getfield 261, 3) := by decide +kernel
theorem dX16_readTest_40 : decode cX16_readTest 40 = .ok (.aload_n 2, 1) := by decide +kernel
theorem dX16_readTest_41 : decode cX16_readTest 41 = .ok (.getfield 258, 3) := by decide +kernel
theorem dX16_readTest_44 : decode cX16_readTest 44 = .ok (.iload 4, 2) := by decide +kernel
theorem dX16_readTest_46 : decode cX16_readTest 46 = .ok (.iastore, 1) := by decide +kernel
theorem dX16_readTest_47 : decode cX16_readTest 47 = .ok (.aload_n 0, 1) := by decide +kernel
theorem dX16_readTest_48 : decode cX16_readTest 48 = .ok (.invokevirtual 192, 3) := by decide +kernel
theorem dX16_readTest_51 : decode cX16_readTest 51 = .ok (.aload_n 0, 1) := by decide +kernel
theorem dX16_readTest_52 : decode cX16_readTest 52 = .ok (.bipush 61, 2) := by decide +kernel
theorem dX16_readTest_54 : decode cX16_readTest 54 = .ok (.invokevirtual 201, 3) := by decide +kernel
theorem dX16_readTest_57 : decode cX16_readTest 57 = .ok (.ifCond .ne 27, 3) := by decide +kernel
theorem dX16_readTest_60 : decode cX16_readTest 60 = .ok (.aload_n 0, 1) := by decide +kernel
theorem dX16_readTest_61 : decode cX16_readTest 61 = .ok (.bipush 60, 2) := by decide +kernel
theorem dX16_readTest_63 : decode cX16_readTest 63 = .ok (.invokevirtual 201, 3) := by decide +kernel
theorem dX16_readTest_66 : decode cX16_readTest 66 = .ok (.ifCond .ne 18, 3) := by decide +kernel
theorem dX16_readTest_69 : decode cX16_readTest 69 = .ok (.aload_n 0, 1) := by decide +kernel
theorem dX16_readTest_70 : decode cX16_readTest 70 = .ok (.bipush 62, 2) := by decide +kernel
theorem dX16_readTest_72 : decode cX16_readTest 72 = .ok (.invokevirtual 201, 3) := by decide +kernel
theorem dX16_readTest_75 : decode cX16_readTest 75 = .ok (.ifCond .ne 9, 3) := by decide +kernel
theorem dX16_readTest_78 : decode cX16_readTest 78 = .ok (.aload_n 0, 1) := by decide +kernel
theorem dX16_readTest_79 : decode cX16_readTest 79 = .ok (.iconst 1, 1) := by decide +kernel
theorem dX16_readTest_80 : decode cX16_readTest 80 = .ok (.invokevirtual 189, 3) := by decide +kernel
theorem dX16_readTest_83 : decode cX16_readTest 83 = .ok (.athrow, 1) := by decide +kernel
theorem dX16_readTest_84 : decode cX16_readTest 84 = .ok (.aload_n 2, 1) := by decide +kernel
theorem dX16_readTest_85 : decode cX16_readTest 85 = .ok (.getfield 263, 3) := by decide +kernel
theorem dX16_readTest_88 : decode cX16_readTest 88 = .ok (.aload_n 2, 1) := by decide +kernel
theorem dX16_readTest_89 : decode cX16_readTest 89 = .ok (.getfield 258, 3) := by decide +kernel
theorem dX16_readTest_92 : decode cX16_readTest 92 = .ok (.aload_n 0, 1) := by decide +kernel
theorem dX16_readTest_93 : decode cX16_readTest 93 = .ok (.getfield 151, 3) := by decide +kernel
theorem dX16_readTest_96 : decode cX16_readTest 96 = .ok (.iastore, 1) := by decide +kernel
theorem dX16_readTest_97 : decode cX16_readTest 97 = .ok (.aload_n 0, 1) := by decide +kernel
theorem dX16_readTest_98 : decode cX16_readTest 98 = .ok (.invokevirtual 192, 3) := by decide +kernel
theorem dX16_readTest_101 : decode cX16_readTest 101 = .ok (.aload_n 0, 1) := by decide +kernel
theorem dX16_readTest_102 : decode cX16_readTest 102 = .ok (.getfield 148, 3) := by decide +kernel
theorem dX16_readTest_105 : decode cX16_readTest 105 = .ok (.iconst 3, 1) := by decide +kernel
theorem dX16_readTest_106 : decode cX16_readTest 106 = .ok (.if_icmp .ne 34, 3) := by decide +kernel
theorem dX16_readTest_109 : decode cX16_readTest 109 = .ok (.aload_n 0, 1) := by decide +kernel
theorem dX16_readTest_110 : decode cX16_readTest 110 = .ok (.getfield 165, 3) := by decide +kernel
theorem dX16_readTest_113 : decode cX16_readTest 113 = .ok (.bipush 99, 2) := by decide +kernel
theorem dX16_readTest_115 : decode cX16_readTest 115 = .ok (.if_icmp .le 9, 3) := by decide +kernel
theorem dX16_readTest_118 : decode cX16_readTest 118 = .ok (.aload_n 0, 1) := by decide +kernel
theorem dX16_readTest_119 : decode cX16_readTest 119 = .ok (.iconst 4, 1) := by decide +kernel
theorem dX16_readTest_120 : decode cX16_readTest 120 = .ok (.invokevirtual 189, 3) := by decide +kernel
theorem dX16_readTest_123 : decode cX16_readTest 123 = .ok (.athrow, 1) := by decide +kernel
theorem dX16_readTest_124 : decode cX16_readTest 124 = .ok (.aload_n 2, 1) := by decide +kernel
theorem dX16_readTest_125 : decode cX16_readTest 125 = .ok (.getfield 266, 3) := by decide +kernel
theorem dX16_readTest_128 : decode cX16_readTest 128 = .ok (.aload_n 2, 1) := by decide +kernel
theorem dX16_readTest_129 : decode cX16_readTest 129 = .ok (.getfield 258, 3) := by decide +kernel
theorem dX16_readTest_132 : decode cX16_readTest 132 = .ok (.aload_n 0, 1) := by decide +kernel
theorem dX16_readTest_133 : decode cX16_readTest 133 = .ok (.getfield 165, 3) := by decide +kernel
theorem dX16_readTest_136 : decode cX16_readTest 136 = .ok (.iastore, 1) := by decide +kernel
theorem dX16_readTest_137 : decode cX16_readTest 137 = .ok (.goto 27, 3) := by decide +kernel
theorem dX16_readTest_140 : decode cX16_readTest 140 = .ok (.aload_n 2, 1) := by decide +kernel
theorem dX16_readTest_141 : decode cX16_readTest 141 = .ok (.getfield 266, 3) := by decide +kernel
theorem dX16_readTest_144 : decode cX16_readTest 144 = .ok (.aload_n 2, 1) := by decide +kernel
theorem dX16_readTest_145 : decode cX16_readTest 145 = .ok (.getfield 258, 3) := by decide +kernel
theorem dX16_readTest_148 : decode cX16_readTest 148 = .ok (.aload_n 0, 1) := by decide +kernel
theorem dX16_readTest_149 : decode cX16_readTest 149 = .ok (.aload_n 1, 1) := by decide +kernel
theorem dX16_readTest_150 : decode cX16_readTest 150 = .ok (.invokevirtual 254, 3) := by decide +kernel
theorem dX16_readTest_153 : decode cX16_readTest 153 = .ok (.iastore, 1) := by decide +kernel
theorem dX16_readTest_154 : decode cX16_readTest 154 = .ok (.aload_n 2, 1) := by decide +kernel
theorem dX16_readTest_155 : decode cX16_readTest 155 = .ok (.getfield 269, 3) := by decide +kernel
theorem dX16_readTest_158 : decode cX16_readTest 158 = .ok (.aload_n 2, 1) := by decide +kernel
theorem dX16_readTest_159 : decode cX16_readTest 159 = .ok (.getfield 258, 3) := by decide +kernel
theorem dX16_readTest_162 : decode cX16_readTest 162 = .ok (.iconst 1, 1) := by decide +kernel
theorem dX16_readTest_163 : decode cX16_readTest 163 = .ok (.bastore, 1) := by decide +kernel
theorem dX16_readTest_164 : decode cX16_readTest 164 = .ok (.aload_n 2, 1) := by decide +kernel
theorem dX16_readTest_165 : decode cX16_readTest 165 = .ok (.dup, 1) := by decide +kernel
theorem dX16_readTest_166 : decode cX16_readTest 166 = .ok (.getfield 258, 3) := by decide +kernel
theorem dX16_readTest_169 : decode cX16_readTest 169 = .ok (.iconst 1, 1) := by decide +kernel
theorem dX16_readTest_170 : decode cX16_readTest 170 = .ok (.iadd, 1) := by decide +kernel
theorem dX16_readTest_171 : decode cX16_readTest 171 = .ok (.putfield 258, 3) := by decide +kernel
theorem dX16_readTest_174 : decode cX16_readTest 174 = .ok (.aload_n 0, 1) := by decide +kernel
theorem dX16_readTest_175 : decode cX16_readTest 175 = .ok (.invokevirtual 192, 3) := by decide +kernel
theorem dX16_readTest_178 : decode cX16_readTest 178 = .ok (.aload_n 0, 1) := by decide +kernel
theorem dX16_readTest_179 : decode cX16_readTest 179 = .ok (.ldc 180, 2) := by decide +kernel
theorem dX16_readTest_181 : decode cX16_readTest 181 = .ok (.invokevirtual 174, 3) := by decide +kernel
theorem dX16_readTest_184 : decode cX16_readTest 184 = .ok (.istore_n 3, 1) := by decide +kernel
theorem dX16_readTest_185 : decode cX16_readTest 185 = .ok (.iload_n 3, 1) := by decide +kernel
theorem dX16_readTest_186 : decode cX16_readTest 186 = .ok (.ifCond .eq 7, 3) := by decide +kernel
theorem dX16_readTest_189 : decode cX16_readTest 189 = .ok (.aload_n 0, 1) := by decide +kernel
theorem dX16_readTest_190 : decode cX16_readTest 190 = .ok (.invokevirtual 192, 3) := by decide +kernel
theorem dX16_readTest_193 : decode cX16_readTest 193 = .ok (.goto (-183), 3) := by decide +kernel
theorem dX16_readTest_196 : decode cX16_readTest 196 = .ok (.aload_n 2, 1) := by decide +kernel
theorem dX16_readTest_197 : decode cX16_readTest 197 = .ok (.areturn, 1) := by decide +kernel
theorem dX16_readTable_0 : decode cX16_readTable 0 = .ok (.new 13, 3) := by decide +kernel
theorem dX16_readTable_3 : decode cX16_readTable 3 = .ok (.dup, 1) := by decide +kernel
theorem dX16_readTable_4 : decode cX16_readTable 4 = .ok (.invokespecial 273, 3) := by decide +kernel
theorem dX16_readTable_7 : decode cX16_readTable 7 = .ok (.astore_n 1, 1) := by decide +kernel
theorem dX16_readTable_8 : decode cX16_readTable 8 = .ok (.aload_n 0, 1) := by decide +kernel
theorem dX16_readTable_9 : decode cX16_readTable 9 = .ok (.ldc 184, 2) := by decide +kernel
theorem dX16_readTable_11 : decode cX16_readTable 11 = .ok (.invokevirtual 174, 3) := by decide +kernel
theorem dX16_readTable_14 : decode cX16_readTable 14 = .ok (.ifCond .eq 26, 3) := by decide +kernel
theorem dX16_readTable_17 : decode cX16_readTable 17 = .ok (.aload_n 0, 1) := by decide +kernel
theorem dX16_readTable_18 : decode cX16_readTable 18 = .ok (.invokevirtual 192, 3) := by decide +kernel
theorem dX16_readTable_21 : decode cX16_readTable 21 = .ok (.aload_n 1, 1) := by decide +kernel
theorem dX16_readTable_22 : decode cX16_readTable 22 = .ok (.aload_n 0, 1) := by decide +kernel
theorem dX16_readTable_23 : decode cX16_readTable 23 = .ok (.aload_n 0, 1) := by decide +kernel
theorem dX16_readTable_24 : decode cX16_readTable 24 = .ok (.getfield 274, 3) := by decide +kernel
theorem dX16_readTable_27 : decode cX16_readTable 27 = .ok (.invokevirtual 254, 3) := by decide +kernel
theorem dX16_readTable_30 : decode cX16_readTable 30 = .ok (.putfield 277, 3) := by decide +kernel
theorem dX16_readTable_33 : decode cX16_readTable 33 = .ok (.aload_n 0, 1) := by decide +kernel
theorem dX16_readTable_34 : decode cX16_readTable 34 = .ok (.invokevirtual 192, 3) := by decide +kernel
theorem dX16_readTable_37 : decode cX16_readTable 37 = .ok (.goto 9, 3) := by decide +kernel
theorem dX16_readTable_40 : decode cX16_readTable 40 = .ok (.aload_n 0, 1) := by decide +kernel
theorem dX16_readTable_41 : decode cX16_readTable 41 = .ok (.ldc 182, 2) := by decide +kernel
theorem dX16_readTable_43 : decode cX16_readTable 43 = .ok (.invokevirtual 227, 3) := by decide +kernel
theorem dX16_readTable_46 : decode cX16_readTable 46 = .ok (.aload_n 0, 1) := by decide +kernel
theorem dX16_readTable_47 : decode cX16_readTable 47 = .ok (.ldc 186, 2) := by decide +kernel
theorem dX16_readTable_49 : decode cX16_readTable 49 = .ok (.invokevirtual 174, 3) := by decide +kernel
theorem dX16_readTable_52 : decode cX16_readTable 52 = .ok (.ifCond .eq 69, 3) := by decide +kernel
theorem dX16_readTable_55 : decode cX16_readTable 55 = .ok (.aload_n 0, 1) := by decide +kernel
theorem dX16_readTable_56 : decode cX16_readTable 56 = .ok (.invokevirtual 192, 3) := by decide +kernel
theorem dX16_readTable_59 : decode cX16_readTable 59 = .ok (.aload_n 1, 1) := by decide +kernel
theorem dX16_readTable_60 : decode cX16_readTable 60 = .ok (.aload_n 0, 1) := by decide +kernel
theorem dX16_readTable_61 : decode cX16_readTable 61 = .ok (.aload_n 0, 1) := by decide +kernel
theorem dX16_readTable_62 : decode cX16_readTable 62 = .ok (.getfield 274, 3) := by decide +kernel
theorem dX16_readTable_65 : decode cX16_readTable 65 = .ok (.invokevirtual 254, 3) := by decide +kernel
theorem dX16_readTable_68 : decode cX16_readTable 68 = .ok (.putfield 279, 3) := by decide +kernel
theorem dX16_readTable_71 : decode cX16_readTable 71 = .ok (.aload_n 0, 1) := by decide +kernel
theorem dX16_readTable_72 : decode cX16_readTable 72 = .ok (.invokevirtual 192, 3) := by decide +kernel
theorem dX16_readTable_75 : decode cX16_readTable 75 = .ok (.aload_n 0, 1) := by decide +kernel
theorem dX16_readTable_76 : decode cX16_readTable 76 = .ok (.bipush 44, 2) := by decide +kernel
theorem dX16_readTable_78 : decode cX16_readTable 78 = .ok (.invokevirtual 201, 3) := by decide +kernel
theorem dX16_readTable_81 : decode cX16_readTable 81 = .ok (.ifCond .eq 40, 3) := by decide +kernel
theorem dX16_readTable_84 : decode cX16_readTable 84 = .ok (.aload_n 0, 1) := by decide +kernel
theorem dX16_readTable_85 : decode cX16_readTable 85 = .ok (.invokevirtual 192, 3) := by decide +kernel
theorem dX16_readTable_88 : decode cX16_readTable 88 = .ok (.aload_n 1, 1) := by decide +kernel
theorem dX16_readTable_89 : decode cX16_readTable 89 = .ok (.aload_n 0, 1) := by decide +kernel
theorem dX16_readTable_90 : decode cX16_readTable 90 = .ok (.aload_n 0, 1) := by decide +kernel
theorem dX16_readTable_91 : decode cX16_readTable 91 = .ok (.getfield 274, 3) := by decide +kernel
theorem dX16_readTable_94 : decode cX16_readTable 94 = .ok (.invokevirtual 254, 3) := by decide +kernel
theorem dX16_readTable_97 : decode cX16_readTable 97 = .ok (.putfield 281, 3) := by decide +kernel
theorem dX16_readTable_100 : decode cX16_readTable 100 = .ok (.aload_n 1, 1) := by decide +kernel
theorem dX16_readTable_101 : decode cX16_readTable 101 = .ok (.getfield 281, 3) := by decide +kernel
theorem dX16_readTable_104 : decode cX16_readTable 104 = .ok (.aload_n 1, 1) := by decide +kernel
theorem dX16_readTable_105 : decode cX16_readTable 105 = .ok (.getfield 279, 3) := by decide +kernel
theorem dX16_readTable_108 : decode cX16_readTable 108 = .ok (.if_icmp .ne 9, 3) := by decide +kernel
theorem dX16_readTable_111 : decode cX16_readTable 111 = .ok (.aload_n 0, 1) := by decide +kernel
theorem dX16_readTable_112 : decode cX16_readTable 112 = .ok (.iconst 3, 1) := by decide +kernel
theorem dX16_readTable_113 : decode cX16_readTable 113 = .ok (.invokevirtual 189, 3) := by decide +kernel
theorem dX16_readTable_116 : decode cX16_readTable 116 = .ok (.athrow, 1) := by decide +kernel
theorem dX16_readTable_117 : decode cX16_readTable 117 = .ok (.aload_n 0, 1) := by decide +kernel
theorem dX16_readTable_118 : decode cX16_readTable 118 = .ok (.invokevirtual 192, 3) := by decide +kernel
theorem dX16_readTable_121 : decode cX16_readTable 121 = .ok (.aload_n 0, 1) := by decide +kernel
theorem dX16_readTable_122 : decode cX16_readTable 122 = .ok (.ldc 188, 2) := by decide +kernel
theorem dX16_readTable_124 : decode cX16_readTable 124 = .ok (.invokevirtual 174, 3) := by decide +kernel
theorem dX16_readTable_127 : decode cX16_readTable 127 = .ok (.ifCond .eq 19, 3) := by decide +kernel
theorem dX16_readTable_130 : decode cX16_readTable 130 = .ok (.aload_n 0, 1) := by decide +kernel
theorem dX16_readTable_131 : decode cX16_readTable 131 = .ok (.invokevirtual 192, 3) := by decide +kernel
theorem dX16_readTable_134 : decode cX16_readTable 134 = .ok (.aload_n 1, 1) := by decide +kernel
theorem dX16_readTable_135 : decode cX16_readTable 135 = .ok (.aload_n 0, 1) := by decide +kernel
theorem dX16_readTable_136 : decode cX16_readTable 136 = .ok (.aload_n 0, 1) := by decide +kernel
theorem dX16_readTable_137 : decode cX16_readTable 137 = .ok (.getfield 274, 3) := by decide +kernel
theorem dX16_readTable_140 : decode cX16_readTable 140 = .ok (.invokevirtual 247, 3) := by decide +kernel
theorem dX16_readTable_143 : decode cX16_readTable 143 = .ok (.putfield 284, 3) := by decide +kernel
theorem dX16_readTable_146 : decode cX16_readTable 146 = .ok (.aload_n 0, 1) := by decide +kernel
theorem dX16_readTable_147 : decode cX16_readTable 147 = .ok (.getfield 148, 3) := by decide +kernel
theorem dX16_readTable_150 : decode cX16_readTable 150 = .ok (.iconst 1, 1) := by decide +kernel
theorem dX16_readTable_151 : decode cX16_readTable 151 = .ok (.if_icmp .eq 9, 3) := by decide +kernel
theorem dX16_readTable_154 : decode cX16_readTable 154 = .ok (.aload_n 0, 1) := by decide +kernel
theorem dX16_readTable_155 : decode cX16_readTable 155 = .ok (.iconst 1, 1) := by decide +kernel
theorem dX16_readTable_156 : decode cX16_readTable 156 = .ok (.invokevirtual 189, 3) := by decide +kernel
theorem dX16_readTable_159 : decode cX16_readTable 159 = .ok (.athrow, 1) := by decide +kernel
theorem dX16_readTable_160 : decode cX16_readTable 160 = .ok (.aload_n 1, 1) := by decide +kernel
theorem dX16_readTable_161 : decode cX16_readTable 161 = .ok (.areturn, 1) := by decide +kernel
theorem dX16_feed_0 : decode cX16_feed 0 = .ok (.aload_n 0, 1) := by decide +kernel
theorem dX16_feed_1 : decode cX16_feed 1 = .ok (.iconst 0, 1) := by decide +kernel
theorem dX16_feed_2 : decode cX16_feed 2 = .ok (.putfield 109, 3) := by decide +kernel
theorem dX16_feed_5 : decode cX16_feed 5 = .ok (.aload_n 0, 1) := by decide +kernel
theorem dX16_feed_6 : decode cX16_feed 6 = .ok (.getfield 287, 3) := by decide +kernel
theorem dX16_feed_9 : decode cX16_feed 9 = .ok (.bipush 20, 2) := by decide +kernel
theorem dX16_feed_11 : decode cX16_feed 11 = .ok (.iadd, 1) := by decide +kernel
theorem dX16_feed_12 : decode cX16_feed 12 = .ok (.sipush 500, 3) := by decide +kernel
theorem dX16_feed_15 : decode cX16_feed 15 = .ok (.if_icmp .le 5, 3) := by decide +kernel
theorem dX16_feed_18 : decode cX16_feed 18 = .ok (.iconst (-1), 1) := by decide +kernel
theorem dX16_feed_19 : decode cX16_feed 19 = .ok (.ireturn, 1) := by decide +kernel
theorem dX16_feed_20 : decode cX16_feed 20 = .ok (.iconst 0, 1) := by decide +kernel
theorem dX16_feed_21 : decode cX16_feed 21 = .ok (.istore 6, 2) := by decide +kernel
theorem dX16_feed_23 : decode cX16_feed 23 = .ok (.iload 6, 2) := by decide +kernel
theorem dX16_feed_25 : decode cX16_feed 25 = .ok (.bipush 20, 2) := by decide +kernel
theorem dX16_feed_27 : decode cX16_feed 27 = .ok (.if_icmp .ge 90, 3) := by decide +kernel
theorem dX16_feed_30 : decode cX16_feed 30 = .ok (.iload 6, 2) := by decide +kernel
theorem dX16_feed_32 : decode cX16_feed 32 = .ok (.iconst 4, 1) := by decide +kernel
theorem dX16_feed_33 : decode cX16_feed 33 = .ok (.if_icmp .ge 7, 3) := by decide +kernel
theorem dX16_feed_36 : decode cX16_feed 36 = .ok (.iload_n 1, 1) := by decide +kernel
theorem dX16_feed_37 : decode cX16_feed 37 = .ok (.goto 39, 3) := by decide +kernel
theorem dX16_feed_40 : decode cX16_feed 40 = .ok (.iload 6, 2) := by decide +kernel
theorem dX16_feed_42 : decode cX16_feed 42 = .ok (.bipush 8, 2) := by decide +kernel
theorem dX16_feed_44 : decode cX16_feed 44 = .ok (.if_icmp .ge 7, 3) := by decide +kernel
theorem dX16_feed_47 : decode cX16_feed 47 = .ok (.iload_n 2, 1) := by decide +kernel
theorem dX16_feed_48 : decode cX16_feed 48 = .ok (.goto 28, 3) := by decide +kernel
theorem dX16_feed_51 : decode cX16_feed 51 = .ok (.iload 6, 2) := by decide +kernel
theorem dX16_feed_53 : decode cX16_feed 53 = .ok (.bipush 12, 2) := by decide +kernel
theorem dX16_feed_55 : decode cX16_feed 55 = .ok (.if_icmp .ge 7, 3) := by decide +kernel
theorem dX16_feed_58 : decode cX16_feed 58 = .ok (.iload_n 3, 1) := by decide +kernel
theorem dX16_feed_59 : decode cX16_feed 59 = .ok (.goto 17, 3) := by decide +kernel
theorem dX16_feed_62 : decode cX16_feed 62 = .ok (.iload 6, 2) := by decide +kernel
theorem dX16_feed_64 : decode cX16_feed 64 = .ok (.bipush 16, 2) := by decide +kernel
theorem dX16_feed_66 : decode cX16_feed 66 = .ok (.if_icmp .ge 8, 3) := by decide +kernel
theorem dX16_feed_69 : decode cX16_feed 69 = .ok (.iload 4, 2) := by decide +kernel
theorem dX16_feed_71 : decode cX16_feed 71 = .ok (.goto 5, 3) := by decide +kernel
theorem dX16_feed_74 : decode cX16_feed 74 = .ok (.iload 5, 2) := by decide +kernel
theorem dX16_feed_76 : decode cX16_feed 76 = .ok (.istore 7, 2) := by decide +kernel
theorem dX16_feed_78 : decode cX16_feed 78 = .ok (.aload_n 0, 1) := by decide +kernel
theorem dX16_feed_79 : decode cX16_feed 79 = .ok (.getfield 26, 3) := by decide +kernel
theorem dX16_feed_82 : decode cX16_feed 82 = .ok (.aload_n 0, 1) := by decide +kernel
theorem dX16_feed_83 : decode cX16_feed 83 = .ok (.getfield 287, 3) := by decide +kernel
theorem dX16_feed_86 : decode cX16_feed 86 = .ok (.iload 7, 2) := by decide +kernel
theorem dX16_feed_88 : decode cX16_feed 88 = .ok (.bipush 24, 2) := by decide +kernel
theorem dX16_feed_90 : decode cX16_feed 90 = .ok (.bipush 8, 2) := by decide +kernel
theorem dX16_feed_92 : decode cX16_feed 92 = .ok (.iload 6, 2) := by decide +kernel
theorem dX16_feed_94 : decode cX16_feed 94 = .ok (.iconst 4, 1) := by decide +kernel
theorem dX16_feed_95 : decode cX16_feed 95 = .ok (.irem, 1) := by decide +kernel
theorem dX16_feed_96 : decode cX16_feed 96 = .ok (.imul, 1) := by decide +kernel
theorem dX16_feed_97 : decode cX16_feed 97 = .ok (.isub, 1) := by decide +kernel
theorem dX16_feed_98 : decode cX16_feed 98 = .ok (.ishr, 1) := by decide +kernel
theorem dX16_feed_99 : decode cX16_feed 99 = .ok (.i2b, 1) := by decide +kernel
theorem dX16_feed_100 : decode cX16_feed 100 = .ok (.bastore, 1) := by decide +kernel
theorem dX16_feed_101 : decode cX16_feed 101 = .ok (.aload_n 0, 1) := by decide +kernel
theorem dX16_feed_102 : decode cX16_feed 102 = .ok (.dup, 1) := by decide +kernel
theorem dX16_feed_103 : decode cX16_feed 103 = .ok (.getfield 287, 3) := by decide +kernel
theorem dX16_feed_106 : decode cX16_feed 106 = .ok (.iconst 1, 1) := by decide +kernel
theorem dX16_feed_107 : decode cX16_feed 107 = .ok (.iadd, 1) := by decide +kernel
theorem dX16_feed_108 : decode cX16_feed 108 = .ok (.putfield 287, 3) := by decide +kernel
theorem dX16_feed_111 : decode cX16_feed 111 = .ok (.iinc 6 1, 3) := by decide +kernel
theorem dX16_feed_114 : decode cX16_feed 114 = .ok (.goto (-91), 3) := by decide +kernel
theorem dX16_feed_117 : decode cX16_feed 117 = .ok (.aload_n 0, 1) := by decide +kernel
theorem dX16_feed_118 : decode cX16_feed 118 = .ok (.getfield 287, 3) := by decide +kernel
theorem dX16_feed_121 : decode cX16_feed 121 = .ok (.ireturn, 1) := by decide +kernel
theorem dX16_begins_0 : decode cX16_begins 0 = .ok (.aload_n 0, 1) := by decide +kernel
theorem dX16_begins_1 : decode cX16_begins 1 = .ok (.iload_n 1, 1) := by decide +kernel
theorem dX16_begins_2 : decode cX16_begins 2 = .ok (.putfield 126, 3) := by decide +kernel
theorem dX16_begins_5 : decode cX16_begins 5 = .ok (.aload_n 0, 1) := by decide +kernel
theorem dX16_begins_6 : decode cX16_begins 6 = .ok (.iconst 0, 1) := by decide +kernel
theorem dX16_begins_7 : decode cX16_begins 7 = .ok (.putfield 287, 3) := by decide +kernel
theorem dX16_begins_10 : decode cX16_begins 10 = .ok (.aload_n 0, 1) := by decide +kernel
theorem dX16_begins_11 : decode cX16_begins 11 = .ok (.iconst 0, 1) := by decide +kernel
theorem dX16_begins_12 : decode cX16_begins 12 = .ok (.putfield 141, 3) := by decide +kernel
theorem dX16_begins_15 : decode cX16_begins 15 = .ok (.aload_n 0, 1) := by decide +kernel
theorem dX16_begins_16 : decode cX16_begins 16 = .ok (.iconst 0, 1) := by decide +kernel
theorem dX16_begins_17 : decode cX16_begins 17 = .ok (.putfield 290, 3) := by decide +kernel
theorem dX16_begins_20 : decode cX16_begins 20 = .ok (.return_, 1) := by decide +kernel
theorem dX16_wrong_0 : decode cX16_wrong 0 = .ok (.aload_n 0, 1) := by decide +kernel
theorem dX16_wrong_1 : decode cX16_wrong 1 = .ok (.aload_n 1, 1) := by decide +kernel
theorem dX16_wrong_2 : decode cX16_wrong 2 = .ok (.getfield 119, 3) := by decide +kernel
theorem dX16_wrong_5 : decode cX16_wrong 5 = .ok (.putfield 290, 3) := by decide +kernel
theorem dX16_wrong_8 : decode cX16_wrong 8 = .ok (.aload_n 0, 1) := by decide +kernel
theorem dX16_wrong_9 : decode cX16_wrong 9 = .ok (.iconst 4, 1) := by decide +kernel
theorem dX16_wrong_10 : decode cX16_wrong 10 = .ok (.putfield 112, 3) := by decide +kernel
theorem dX16_wrong_13 : decode cX16_wrong 13 = .ok (.aload_n 0, 1) := by decide +kernel
theorem dX16_wrong_14 : decode cX16_wrong 14 = .ok (.aload_n 1, 1) := by decide +kernel
theorem dX16_wrong_15 : decode cX16_wrong 15 = .ok (.getfield 125, 3) := by decide +kernel
theorem dX16_wrong_18 : decode cX16_wrong 18 = .ok (.putfield 9, 3) := by decide +kernel
theorem dX16_wrong_21 : decode cX16_wrong 21 = .ok (.iconst (-1), 1) := by decide +kernel
theorem dX16_wrong_22 : decode cX16_wrong 22 = .ok (.ireturn, 1) := by decide +kernel
theorem dX16_book_0 : decode cX16_book 0 = .ok (.aload_n 0, 1) := by decide +kernel
theorem dX16_book_1 : decode cX16_book 1 = .ok (.iconst 0, 1) := by decide +kernel
theorem dX16_book_2 : decode cX16_book 2 = .ok (.putfield 109, 3) := by decide +kernel
theorem dX16_book_5 : decode cX16_book 5 = .ok (.iload_n 1, 1) := by decide +kernel
theorem dX16_book_6 : decode cX16_book 6 = .ok (.ifCond .lt 11, 3) := by decide +kernel
theorem dX16_book_9 : decode cX16_book 9 = .ok (.iload_n 1, 1) := by decide +kernel
theorem dX16_book_10 : decode cX16_book 10 = .ok (.aload_n 0, 1) := by decide +kernel
theorem dX16_book_11 : decode cX16_book 11 = .ok (.getfield 287, 3) := by decide +kernel
theorem dX16_book_14 : decode cX16_book 14 = .ok (.if_icmp .le 9, 3) := by decide +kernel
theorem dX16_book_17 : decode cX16_book 17 = .ok (.aload_n 0, 1) := by decide +kernel
theorem dX16_book_18 : decode cX16_book 18 = .ok (.iconst 2, 1) := by decide +kernel
theorem dX16_book_19 : decode cX16_book 19 = .ok (.invokevirtual 293, 3) := by decide +kernel
theorem dX16_book_22 : decode cX16_book 22 = .ok (.ireturn, 1) := by decide +kernel
theorem dX16_book_23 : decode cX16_book 23 = .ok (.aload_n 0, 1) := by decide +kernel
theorem dX16_book_24 : decode cX16_book 24 = .ok (.iload_n 1, 1) := by decide +kernel
theorem dX16_book_25 : decode cX16_book 25 = .ok (.invokevirtual 296, 3) := by decide +kernel
theorem dX16_book_28 : decode cX16_book 28 = .ok (.aload_n 0, 1) := by decide +kernel
theorem dX16_book_29 : decode cX16_book 29 = .ok (.new 213, 3) := by decide +kernel
theorem dX16_book_32 : decode cX16_book 32 = .ok (.dup, 1) := by decide +kernel
theorem dX16_book_33 : decode cX16_book 33 = .ok (.invokespecial 300, 3) := by decide +kernel
theorem dX16_book_36 : decode cX16_book 36 = .ok (.putfield 208, 3) := by decide +kernel
theorem dX16_book_39 : decode cX16_book 39 = .ok (.aload_n 0, 1) := by decide +kernel
theorem dX16_book_40 : decode cX16_book 40 = .ok (.invokevirtual 192, 3) := by decide +kernel
theorem dX16_book_43 : decode cX16_book 43 = .ok (.aload_n 0, 1) := by decide +kernel
theorem dX16_book_44 : decode cX16_book 44 = .ok (.invokevirtual 301, 3) := by decide +kernel
theorem dX16_book_47 : decode cX16_book 47 = .ok (.goto 10, 3) := by decide +kernel
theorem dX16_book_50 : decode cX16_book 50 = .ok (.astore_n 2, 1) := by decide +kernel
theorem dX16_book_51 : decode cX16_book 51 = .ok (.aload_n 0, 1) := by decide +kernel
theorem dX16_book_52 : decode cX16_book 52 = .ok (.aload_n 2, 1) := by decide +kernel
theorem dX16_book_53 : decode cX16_book 53 = .ok (.invokevirtual 304, 3) := by decide +kernel
theorem dX16_book_56 : decode cX16_book 56 = .ok (.ireturn, 1) := by decide +kernel
theorem dX16_book_57 : decode cX16_book 57 = .ok (.aload_n 0, 1) := by decide +kernel
theorem dX16_book_58 : decode cX16_book 58 = .ok (.aload_n 0, 1) := by decide +kernel
theorem dX16_book_59 : decode cX16_book 59 = .ok (.getfield 208, 3) := by decide +kernel
theorem dX16_book_62 : decode cX16_book 62 = .ok (.putfield 274, 3) := by decide +kernel
theorem dX16_book_65 : decode cX16_book 65 = .ok (.aload_n 0, 1) := by decide +kernel
theorem dX16_book_66 : decode cX16_book 66 = .ok (.iconst 0, 1) := by decide +kernel
theorem dX16_book_67 : decode cX16_book 67 = .ok (.putfield 308, 3) := by decide +kernel
theorem dX16_book_70 : decode cX16_book 70 = .ok (.aload_n 0, 1) := by decide +kernel
theorem dX16_book_71 : decode cX16_book 71 = .ok (.iconst 0, 1) := by decide +kernel
theorem dX16_book_72 : decode cX16_book 72 = .ok (.putfield 311, 3) := by decide +kernel
theorem dX16_book_75 : decode cX16_book 75 = .ok (.aload_n 0, 1) := by decide +kernel
theorem dX16_book_76 : decode cX16_book 76 = .ok (.iconst 0, 1) := by decide +kernel
theorem dX16_book_77 : decode cX16_book 77 = .ok (.putfield 314, 3) := by decide +kernel
theorem dX16_book_80 : decode cX16_book 80 = .ok (.aload_n 0, 1) := by decide +kernel
theorem dX16_book_81 : decode cX16_book 81 = .ok (.iconst (-1), 1) := by decide +kernel
theorem dX16_book_82 : decode cX16_book 82 = .ok (.putfield 73, 3) := by decide +kernel
theorem dX16_book_85 : decode cX16_book 85 = .ok (.iconst 0, 1) := by decide +kernel
theorem dX16_book_86 : decode cX16_book 86 = .ok (.istore_n 2, 1) := by decide +kernel
theorem dX16_book_87 : decode cX16_book 87 = .ok (.iload_n 2, 1) := by decide +kernel
theorem dX16_book_88 : decode cX16_book 88 = .ok (.bipush 10, 2) := by decide +kernel
theorem dX16_book_90 : decode cX16_book 90 = .ok (.if_icmp .ge 16, 3) := by decide +kernel
theorem dX16_book_93 : decode cX16_book 93 = .ok (.aload_n 0, 1) := by decide +kernel
theorem dX16_book_94 : decode cX16_book 94 = .ok (.getfield 76, 3) := by decide +kernel
theorem dX16_book_97 : decode cX16_book 97 = .ok (.iload_n 2, 1) := by decide +kernel
theorem dX16_book_98 : decode cX16_book 98 = .ok (.iconst 0, 1) := by decide +kernel
theorem dX16_book_99 : decode cX16_book 99 = .ok (.iastore, 1) := by decide +kernel
theorem dX16_book_100 : decode cX16_book 100 = .ok (.iinc 2 1, 3) := by decide +kernel
theorem dX16_book_103 : decode cX16_book 103 = .ok (.goto (-16), 3) := by decide +kernel
theorem dX16_book_106 : decode cX16_book 106 = .ok (.iconst 0, 1) := by decide +kernel
theorem dX16_book_107 : decode cX16_book 107 = .ok (.istore_n 2, 1) := by decide +kernel
theorem dX16_book_108 : decode cX16_book 108 = .ok (.iload_n 2, 1) := by decide +kernel
theorem dX16_book_109 : decode cX16_book 109 = .ok (.bipush 60, 2) := by decide +kernel
theorem dX16_book_111 : decode cX16_book 111 = .ok (.if_icmp .ge 16, 3) := by decide +kernel
theorem dX16_book_114 : decode cX16_book 114 = .ok (.aload_n 0, 1) := by decide +kernel
theorem dX16_book_115 : decode cX16_book 115 = .ok (.getfield 79, 3) := by decide +kernel
theorem dX16_book_118 : decode cX16_book 118 = .ok (.iload_n 2, 1) := by decide +kernel
theorem dX16_book_119 : decode cX16_book 119 = .ok (.iconst 0, 1) := by decide +kernel
theorem dX16_book_120 : decode cX16_book 120 = .ok (.iastore, 1) := by decide +kernel
theorem dX16_book_121 : decode cX16_book 121 = .ok (.iinc 2 1, 3) := by decide +kernel
theorem dX16_book_124 : decode cX16_book 124 = .ok (.goto (-16), 3) := by decide +kernel
theorem dX16_book_127 : decode cX16_book 127 = .ok (.aload_n 0, 1) := by decide +kernel
theorem dX16_book_128 : decode cX16_book 128 = .ok (.iconst 0, 1) := by decide +kernel
theorem dX16_book_129 : decode cX16_book 129 = .ok (.putfield 317, 3) := by decide +kernel
theorem dX16_book_132 : decode cX16_book 132 = .ok (.aload_n 0, 1) := by decide +kernel
theorem dX16_book_133 : decode cX16_book 133 = .ok (.iconst 0, 1) := by decide +kernel
theorem dX16_book_134 : decode cX16_book 134 = .ok (.putfield 320, 3) := by decide +kernel
theorem dX16_book_137 : decode cX16_book 137 = .ok (.aload_n 0, 1) := by decide +kernel
theorem dX16_book_138 : decode cX16_book 138 = .ok (.iconst 3, 1) := by decide +kernel
theorem dX16_book_139 : decode cX16_book 139 = .ok (.putfield 82, 3) := by decide +kernel
theorem dX16_book_142 : decode cX16_book 142 = .ok (.aload_n 0, 1) := by decide +kernel
theorem dX16_book_143 : decode cX16_book 143 = .ok (.iconst 3, 1) := by decide +kernel
theorem dX16_book_144 : decode cX16_book 144 = .ok (.putfield 85, 3) := by decide +kernel
theorem dX16_book_147 : decode cX16_book 147 = .ok (.aload_n 0, 1) := by decide +kernel
theorem dX16_book_148 : decode cX16_book 148 = .ok (.bipush 10, 2) := by decide +kernel
theorem dX16_book_150 : decode cX16_book 150 = .ok (.putfield 88, 3) := by decide +kernel
theorem dX16_book_153 : decode cX16_book 153 = .ok (.aload_n 0, 1) := by decide +kernel
theorem dX16_book_154 : decode cX16_book 154 = .ok (.aload_n 0, 1) := by decide +kernel
theorem dX16_book_155 : decode cX16_book 155 = .ok (.getfield 274, 3) := by decide +kernel
theorem dX16_book_158 : decode cX16_book 158 = .ok (.getfield 218, 3) := by decide +kernel
theorem dX16_book_161 : decode cX16_book 161 = .ok (.invokevirtual 323, 3) := by decide +kernel
theorem dX16_book_164 : decode cX16_book 164 = .ok (.ireturn, 1) := by decide +kernel
theorem dX16_table_0 : decode cX16_table 0 = .ok (.aload_n 0, 1) := by decide +kernel
theorem dX16_table_1 : decode cX16_table 1 = .ok (.iconst 0, 1) := by decide +kernel
theorem dX16_table_2 : decode cX16_table 2 = .ok (.putfield 109, 3) := by decide +kernel
theorem dX16_table_5 : decode cX16_table 5 = .ok (.aload_n 0, 1) := by decide +kernel
theorem dX16_table_6 : decode cX16_table 6 = .ok (.getfield 274, 3) := by decide +kernel
theorem dX16_table_9 : decode cX16_table 9 = .ok (.ifnonnull 9, 3) := by decide +kernel
theorem dX16_table_12 : decode cX16_table 12 = .ok (.aload_n 0, 1) := by decide +kernel
theorem dX16_table_13 : decode cX16_table 13 = .ok (.iconst 1, 1) := by decide +kernel
theorem dX16_table_14 : decode cX16_table 14 = .ok (.invokevirtual 293, 3) := by decide +kernel
theorem dX16_table_17 : decode cX16_table 17 = .ok (.ireturn, 1) := by decide +kernel
theorem dX16_table_18 : decode cX16_table 18 = .ok (.iload_n 1, 1) := by decide +kernel
theorem dX16_table_19 : decode cX16_table 19 = .ok (.ifCond .lt 11, 3) := by decide +kernel
theorem dX16_table_22 : decode cX16_table 22 = .ok (.iload_n 1, 1) := by decide +kernel
theorem dX16_table_23 : decode cX16_table 23 = .ok (.aload_n 0, 1) := by decide +kernel
theorem dX16_table_24 : decode cX16_table 24 = .ok (.getfield 287, 3) := by decide +kernel
theorem dX16_table_27 : decode cX16_table 27 = .ok (.if_icmp .le 9, 3) := by decide +kernel
theorem dX16_table_30 : decode cX16_table 30 = .ok (.aload_n 0, 1) := by decide +kernel
theorem dX16_table_31 : decode cX16_table 31 = .ok (.iconst 2, 1) := by decide +kernel
theorem dX16_table_32 : decode cX16_table 32 = .ok (.invokevirtual 293, 3) := by decide +kernel
theorem dX16_table_35 : decode cX16_table 35 = .ok (.ireturn, 1) := by decide +kernel
theorem dX16_table_36 : decode cX16_table 36 = .ok (.aload_n 0, 1) := by decide +kernel
theorem dX16_table_37 : decode cX16_table 37 = .ok (.iload_n 1, 1) := by decide +kernel
theorem dX16_table_38 : decode cX16_table 38 = .ok (.invokevirtual 296, 3) := by decide +kernel
theorem dX16_table_41 : decode cX16_table 41 = .ok (.aload_n 0, 1) := by decide +kernel
theorem dX16_table_42 : decode cX16_table 42 = .ok (.invokevirtual 192, 3) := by decide +kernel
theorem dX16_table_45 : decode cX16_table 45 = .ok (.aload_n 0, 1) := by decide +kernel
theorem dX16_table_46 : decode cX16_table 46 = .ok (.invokevirtual 326, 3) := by decide +kernel
theorem dX16_table_49 : decode cX16_table 49 = .ok (.astore_n 2, 1) := by decide +kernel
theorem dX16_table_50 : decode cX16_table 50 = .ok (.goto 10, 3) := by decide +kernel
theorem dX16_table_53 : decode cX16_table 53 = .ok (.astore_n 3, 1) := by decide +kernel
theorem dX16_table_54 : decode cX16_table 54 = .ok (.aload_n 0, 1) := by decide +kernel
theorem dX16_table_55 : decode cX16_table 55 = .ok (.aload_n 3, 1) := by decide +kernel
theorem dX16_table_56 : decode cX16_table 56 = .ok (.invokevirtual 304, 3) := by decide +kernel
theorem dX16_table_59 : decode cX16_table 59 = .ok (.ireturn, 1) := by decide +kernel
theorem dX16_table_60 : decode cX16_table 60 = .ok (.aload_n 0, 1) := by decide +kernel
theorem dX16_table_61 : decode cX16_table 61 = .ok (.getfield 311, 3) := by decide +kernel
theorem dX16_table_64 : decode cX16_table 64 = .ok (.bipush 8, 2) := by decide +kernel
theorem dX16_table_66 : decode cX16_table 66 = .ok (.if_icmp .ne 9, 3) := by decide +kernel
theorem dX16_table_69 : decode cX16_table 69 = .ok (.aload_n 0, 1) := by decide +kernel
theorem dX16_table_70 : decode cX16_table 70 = .ok (.iconst 3, 1) := by decide +kernel
theorem dX16_table_71 : decode cX16_table 71 = .ok (.invokevirtual 293, 3) := by decide +kernel
theorem dX16_table_74 : decode cX16_table 74 = .ok (.ireturn, 1) := by decide +kernel
theorem dX16_table_75 : decode cX16_table 75 = .ok (.aload_n 0, 1) := by decide +kernel
theorem dX16_table_76 : decode cX16_table 76 = .ok (.getfield 15, 3) := by decide +kernel
theorem dX16_table_79 : decode cX16_table 79 = .ok (.aload_n 0, 1) := by decide +kernel
theorem dX16_table_80 : decode cX16_table 80 = .ok (.getfield 311, 3) := by decide +kernel
theorem dX16_table_83 : decode cX16_table 83 = .ok (.aload_n 2, 1) := by decide +kernel
theorem dX16_table_84 : decode cX16_table 84 = .ok (.aastore, 1) := by decide +kernel
theorem dX16_table_85 : decode cX16_table 85 = .ok (.aload_n 0, 1) := by decide +kernel
theorem dX16_table_86 : decode cX16_table 86 = .ok (.dup, 1) := by decide +kernel
theorem dX16_table_87 : decode cX16_table 87 = .ok (.getfield 311, 3) := by decide +kernel
theorem dX16_table_90 : decode cX16_table 90 = .ok (.iconst 1, 1) := by decide +kernel
theorem dX16_table_91 : decode cX16_table 91 = .ok (.iadd, 1) := by decide +kernel
theorem dX16_table_92 : decode cX16_table 92 = .ok (.putfield 311, 3) := by decide +kernel
theorem dX16_table_95 : decode cX16_table 95 = .ok (.aload_n 0, 1) := by decide +kernel
theorem dX16_table_96 : decode cX16_table 96 = .ok (.aload_n 0, 1) := by decide +kernel
theorem dX16_table_97 : decode cX16_table 97 = .ok (.getfield 311, 3) := by decide +kernel
theorem dX16_table_100 : decode cX16_table 100 = .ok (.iconst 1, 1) := by decide +kernel
theorem dX16_table_101 : decode cX16_table 101 = .ok (.isub, 1) := by decide +kernel
theorem dX16_table_102 : decode cX16_table 102 = .ok (.invokevirtual 323, 3) := by decide +kernel
theorem dX16_table_105 : decode cX16_table 105 = .ok (.ireturn, 1) := by decide +kernel
theorem dX16_fault_0 : decode cX16_fault 0 = .ok (.aload_n 0, 1) := by decide +kernel
theorem dX16_fault_1 : decode cX16_fault 1 = .ok (.iconst 0, 1) := by decide +kernel
theorem dX16_fault_2 : decode cX16_fault 2 = .ok (.putfield 109, 3) := by decide +kernel
theorem dX16_fault_5 : decode cX16_fault 5 = .ok (.aload_n 0, 1) := by decide +kernel
theorem dX16_fault_6 : decode cX16_fault 6 = .ok (.getfield 290, 3) := by decide +kernel
theorem dX16_fault_9 : decode cX16_fault 9 = .ok (.ireturn, 1) := by decide +kernel
theorem dX16_where_0 : decode cX16_where 0 = .ok (.aload_n 0, 1) := by decide +kernel
theorem dX16_where_1 : decode cX16_where 1 = .ok (.iconst 0, 1) := by decide +kernel
theorem dX16_where_2 : decode cX16_where 2 = .ok (.putfield 109, 3) := by decide +kernel
theorem dX16_where_5 : decode cX16_where 5 = .ok (.aload_n 0, 1) := by decide +kernel
theorem dX16_where_6 : decode cX16_where 6 = .ok (.getfield 9, 3) := by decide +kernel
theorem dX16_where_9 : decode cX16_where 9 = .ok (.ireturn, 1) := by decide +kernel
theorem dX16_isField_0 : decode cX16_isField 0 = .ok (.aload_n 0, 1) := by decide +kernel
theorem dX16_isField_1 : decode cX16_isField 1 = .ok (.getfield 274, 3) := by decide +kernel
theorem dX16_isField_4 : decode cX16_isField 4 = .ok (.ifnull 22, 3) := by decide +kernel
theorem dX16_isField_7 : decode cX16_isField 7 = .ok (.iload_n 1, 1) := by decide +kernel
theorem dX16_isField_8 : decode cX16_isField 8 = .ok (.ifCond .lt 18, 3) := by decide +kernel
theorem dX16_isField_11 : decode cX16_isField 11 = .ok (.iload_n 1, 1) := by decide +kernel
theorem dX16_isField_12 : decode cX16_isField 12 = .ok (.aload_n 0, 1) := by decide +kernel
theorem dX16_isField_13 : decode cX16_isField 13 = .ok (.getfield 274, 3) := by decide +kernel
theorem dX16_isField_16 : decode cX16_isField 16 = .ok (.getfield 218, 3) := by decide +kernel
theorem dX16_isField_19 : decode cX16_isField 19 = .ok (.if_icmp .ge 7, 3) := by decide +kernel
theorem dX16_isField_22 : decode cX16_isField 22 = .ok (.iconst 1, 1) := by decide +kernel
theorem dX16_isField_23 : decode cX16_isField 23 = .ok (.goto 4, 3) := by decide +kernel
theorem dX16_isField_26 : decode cX16_isField 26 = .ok (.iconst 0, 1) := by decide +kernel
theorem dX16_isField_27 : decode cX16_isField 27 = .ok (.ireturn, 1) := by decide +kernel
theorem dX16_field_0 : decode cX16_field 0 = .ok (.aload_n 0, 1) := by decide +kernel
theorem dX16_field_1 : decode cX16_field 1 = .ok (.iconst 0, 1) := by decide +kernel
theorem dX16_field_2 : decode cX16_field 2 = .ok (.putfield 109, 3) := by decide +kernel
theorem dX16_field_5 : decode cX16_field 5 = .ok (.aload_n 0, 1) := by decide +kernel
theorem dX16_field_6 : decode cX16_field 6 = .ok (.iload_n 1, 1) := by decide +kernel
theorem dX16_field_7 : decode cX16_field 7 = .ok (.invokevirtual 330, 3) := by decide +kernel
theorem dX16_field_10 : decode cX16_field 10 = .ok (.ifCond .ne 7, 3) := by decide +kernel
theorem dX16_field_13 : decode cX16_field 13 = .ok (.iconst (-1), 1) := by decide +kernel
theorem dX16_field_14 : decode cX16_field 14 = .ok (.goto 37, 3) := by decide +kernel
theorem dX16_field_17 : decode cX16_field 17 = .ok (.iload_n 2, 1) := by decide +kernel
theorem dX16_field_18 : decode cX16_field 18 = .ok (.ifCond .ne 15, 3) := by decide +kernel
theorem dX16_field_21 : decode cX16_field 21 = .ok (.aload_n 0, 1) := by decide +kernel
theorem dX16_field_22 : decode cX16_field 22 = .ok (.getfield 274, 3) := by decide +kernel
theorem dX16_field_25 : decode cX16_field 25 = .ok (.getfield 235, 3) := by decide +kernel
theorem dX16_field_28 : decode cX16_field 28 = .ok (.iload_n 1, 1) := by decide +kernel
theorem dX16_field_29 : decode cX16_field 29 = .ok (.iaload, 1) := by decide +kernel
theorem dX16_field_30 : decode cX16_field 30 = .ok (.goto 21, 3) := by decide +kernel
theorem dX16_field_33 : decode cX16_field 33 = .ok (.iload_n 2, 1) := by decide +kernel
theorem dX16_field_34 : decode cX16_field 34 = .ok (.iconst 1, 1) := by decide +kernel
theorem dX16_field_35 : decode cX16_field 35 = .ok (.if_icmp .ne 15, 3) := by decide +kernel
theorem dX16_field_38 : decode cX16_field 38 = .ok (.aload_n 0, 1) := by decide +kernel
theorem dX16_field_39 : decode cX16_field 39 = .ok (.getfield 274, 3) := by decide +kernel
theorem dX16_field_42 : decode cX16_field 42 = .ok (.getfield 239, 3) := by decide +kernel
theorem dX16_field_45 : decode cX16_field 45 = .ok (.iload_n 1, 1) := by decide +kernel
theorem dX16_field_46 : decode cX16_field 46 = .ok (.iaload, 1) := by decide +kernel
theorem dX16_field_47 : decode cX16_field 47 = .ok (.goto 4, 3) := by decide +kernel
theorem dX16_field_50 : decode cX16_field 50 = .ok (.iconst (-1), 1) := by decide +kernel
theorem dX16_field_51 : decode cX16_field 51 = .ok (.ireturn, 1) := by decide +kernel
theorem dX16_isRow_0 : decode cX16_isRow 0 = .ok (.iload_n 1, 1) := by decide +kernel
theorem dX16_isRow_1 : decode cX16_isRow 1 = .ok (.ifCond .lt 15, 3) := by decide +kernel
theorem dX16_isRow_4 : decode cX16_isRow 4 = .ok (.iload_n 1, 1) := by decide +kernel
theorem dX16_isRow_5 : decode cX16_isRow 5 = .ok (.aload_n 0, 1) := by decide +kernel
theorem dX16_isRow_6 : decode cX16_isRow 6 = .ok (.getfield 308, 3) := by decide +kernel
theorem dX16_isRow_9 : decode cX16_isRow 9 = .ok (.if_icmp .ge 7, 3) := by decide +kernel
theorem dX16_isRow_12 : decode cX16_isRow 12 = .ok (.iconst 1, 1) := by decide +kernel
theorem dX16_isRow_13 : decode cX16_isRow 13 = .ok (.goto 4, 3) := by decide +kernel
theorem dX16_isRow_16 : decode cX16_isRow 16 = .ok (.iconst 0, 1) := by decide +kernel
theorem dX16_isRow_17 : decode cX16_isRow 17 = .ok (.ireturn, 1) := by decide +kernel
theorem dX16_isValue_0 : decode cX16_isValue 0 = .ok (.iload_n 1, 1) := by decide +kernel
theorem dX16_isValue_1 : decode cX16_isValue 1 = .ok (.aload_n 0, 1) := by decide +kernel
theorem dX16_isValue_2 : decode cX16_isValue 2 = .ok (.getfield 274, 3) := by decide +kernel
theorem dX16_isValue_5 : decode cX16_isValue 5 = .ok (.getfield 218, 3) := by decide +kernel
theorem dX16_isValue_8 : decode cX16_isValue 8 = .ok (.if_icmp .ge 20, 3) := by decide +kernel
theorem dX16_isValue_11 : decode cX16_isValue 11 = .ok (.iload_n 2, 1) := by decide +kernel
theorem dX16_isValue_12 : decode cX16_isValue 12 = .ok (.iconst (-1), 1) := by decide +kernel
theorem dX16_isValue_13 : decode cX16_isValue 13 = .ok (.aload_n 0, 1) := by decide +kernel
theorem dX16_isValue_14 : decode cX16_isValue 14 = .ok (.getfield 274, 3) := by decide +kernel
theorem dX16_isValue_17 : decode cX16_isValue 17 = .ok (.getfield 235, 3) := by decide +kernel
theorem dX16_isValue_20 : decode cX16_isValue 20 = .ok (.iload_n 1, 1) := by decide +kernel
theorem dX16_isValue_21 : decode cX16_isValue 21 = .ok (.iaload, 1) := by decide +kernel
theorem dX16_isValue_22 : decode cX16_isValue 22 = .ok (.invokestatic 231, 3) := by decide +kernel
theorem dX16_isValue_25 : decode cX16_isValue 25 = .ok (.ifCond .eq 7, 3) := by decide +kernel
theorem dX16_isValue_28 : decode cX16_isValue 28 = .ok (.iconst 1, 1) := by decide +kernel
theorem dX16_isValue_29 : decode cX16_isValue 29 = .ok (.goto 4, 3) := by decide +kernel
theorem dX16_isValue_32 : decode cX16_isValue 32 = .ok (.iconst 0, 1) := by decide +kernel
theorem dX16_isValue_33 : decode cX16_isValue 33 = .ok (.ireturn, 1) := by decide +kernel
theorem dX16_row_0 : decode cX16_row 0 = .ok (.aload_n 0, 1) := by decide +kernel
theorem dX16_row_1 : decode cX16_row 1 = .ok (.iconst 0, 1) := by decide +kernel
theorem dX16_row_2 : decode cX16_row 2 = .ok (.putfield 109, 3) := by decide +kernel
theorem dX16_row_5 : decode cX16_row 5 = .ok (.aload_n 0, 1) := by decide +kernel
theorem dX16_row_6 : decode cX16_row 6 = .ok (.getfield 274, 3) := by decide +kernel
theorem dX16_row_9 : decode cX16_row 9 = .ok (.ifnonnull 9, 3) := by decide +kernel
theorem dX16_row_12 : decode cX16_row 12 = .ok (.aload_n 0, 1) := by decide +kernel
theorem dX16_row_13 : decode cX16_row 13 = .ok (.iconst 1, 1) := by decide +kernel
theorem dX16_row_14 : decode cX16_row 14 = .ok (.invokevirtual 293, 3) := by decide +kernel
theorem dX16_row_17 : decode cX16_row 17 = .ok (.ireturn, 1) := by decide +kernel
theorem dX16_row_18 : decode cX16_row 18 = .ok (.aload_n 0, 1) := by decide +kernel
theorem dX16_row_19 : decode cX16_row 19 = .ok (.iconst 0, 1) := by decide +kernel
theorem dX16_row_20 : decode cX16_row 20 = .ok (.iload_n 1, 1) := by decide +kernel
theorem dX16_row_21 : decode cX16_row 21 = .ok (.invokevirtual 332, 3) := by decide +kernel
theorem dX16_row_24 : decode cX16_row 24 = .ok (.ifCond .eq 51, 3) := by decide +kernel
theorem dX16_row_27 : decode cX16_row 27 = .ok (.aload_n 0, 1) := by decide +kernel
theorem dX16_row_28 : decode cX16_row 28 = .ok (.iconst 1, 1) := by decide +kernel
theorem dX16_row_29 : decode cX16_row 29 = .ok (.iload_n 2, 1) := by decide +kernel
theorem dX16_row_30 : decode cX16_row 30 = .ok (.invokevirtual 332, 3) := by decide +kernel
theorem dX16_row_33 : decode cX16_row 33 = .ok (.ifCond .eq 42, 3) := by decide +kernel
theorem dX16_row_36 : decode cX16_row 36 = .ok (.aload_n 0, 1) := by decide +kernel
theorem dX16_row_37 : decode cX16_row 37 = .ok (.iconst 2, 1) := by decide +kernel
theorem dX16_row_38 : decode cX16_row 38 = .ok (.iload_n 3, 1) := by decide +kernel
theorem dX16_row_39 : decode cX16_row 39 = .ok (.invokevirtual 332, 3) := by decide +kernel
theorem dX16_row_42 : decode cX16_row 42 = .ok (.ifCond .eq 33, 3) := by decide +kernel
theorem dX16_row_45 : decode cX16_row 45 = .ok (.aload_n 0, 1) := by decide +kernel
theorem dX16_row_46 : decode cX16_row 46 = .ok (.iconst 3, 1) := by decide +kernel
theorem dX16_row_47 : decode cX16_row 47 = .ok (.iload 4, 2) := by decide +kernel
theorem dX16_row_49 : decode cX16_row 49 = .ok (.invokevirtual 332, 3) := by decide +kernel
theorem dX16_row_52 : decode cX16_row 52 = .ok (.ifCond .eq 23, 3) := by decide +kernel
theorem dX16_row_55 : decode cX16_row 55 = .ok (.aload_n 0, 1) := by decide +kernel
theorem dX16_row_56 : decode cX16_row 56 = .ok (.iconst 4, 1) := by decide +kernel
theorem dX16_row_57 : decode cX16_row 57 = .ok (.iload 5, 2) := by decide +kernel
theorem dX16_row_59 : decode cX16_row 59 = .ok (.invokevirtual 332, 3) := by decide +kernel
theorem dX16_row_62 : decode cX16_row 62 = .ok (.ifCond .eq 13, 3) := by decide +kernel
theorem dX16_row_65 : decode cX16_row 65 = .ok (.aload_n 0, 1) := by decide +kernel
theorem dX16_row_66 : decode cX16_row 66 = .ok (.iconst 5, 1) := by decide +kernel
theorem dX16_row_67 : decode cX16_row 67 = .ok (.iload 6, 2) := by decide +kernel
theorem dX16_row_69 : decode cX16_row 69 = .ok (.invokevirtual 332, 3) := by decide +kernel
theorem dX16_row_72 : decode cX16_row 72 = .ok (.ifCond .ne 9, 3) := by decide +kernel
theorem dX16_row_75 : decode cX16_row 75 = .ok (.aload_n 0, 1) := by decide +kernel
theorem dX16_row_76 : decode cX16_row 76 = .ok (.iconst 2, 1) := by decide +kernel
theorem dX16_row_77 : decode cX16_row 77 = .ok (.invokevirtual 293, 3) := by decide +kernel
theorem dX16_row_80 : decode cX16_row 80 = .ok (.ireturn, 1) := by decide +kernel
theorem dX16_row_81 : decode cX16_row 81 = .ok (.aload_n 0, 1) := by decide +kernel
theorem dX16_row_82 : decode cX16_row 82 = .ok (.getfield 308, 3) := by decide +kernel
theorem dX16_row_85 : decode cX16_row 85 = .ok (.bipush 60, 2) := by decide +kernel
theorem dX16_row_87 : decode cX16_row 87 = .ok (.if_icmp .ne 9, 3) := by decide +kernel
theorem dX16_row_90 : decode cX16_row 90 = .ok (.aload_n 0, 1) := by decide +kernel
theorem dX16_row_91 : decode cX16_row 91 = .ok (.iconst 3, 1) := by decide +kernel
theorem dX16_row_92 : decode cX16_row 92 = .ok (.invokevirtual 293, 3) := by decide +kernel
theorem dX16_row_95 : decode cX16_row 95 = .ok (.ireturn, 1) := by decide +kernel
theorem dX16_row_96 : decode cX16_row 96 = .ok (.bipush 6, 2) := by decide +kernel
theorem dX16_row_98 : decode cX16_row 98 = .ok (.aload_n 0, 1) := by decide +kernel
theorem dX16_row_99 : decode cX16_row 99 = .ok (.getfield 308, 3) := by decide +kernel
theorem dX16_row_102 : decode cX16_row 102 = .ok (.imul, 1) := by decide +kernel
theorem dX16_row_103 : decode cX16_row 103 = .ok (.istore 7, 2) := by decide +kernel
theorem dX16_row_105 : decode cX16_row 105 = .ok (.aload_n 0, 1) := by decide +kernel
theorem dX16_row_106 : decode cX16_row 106 = .ok (.getfield 30, 3) := by decide +kernel
theorem dX16_row_109 : decode cX16_row 109 = .ok (.iload 7, 2) := by decide +kernel
theorem dX16_row_111 : decode cX16_row 111 = .ok (.iload_n 1, 1) := by decide +kernel
theorem dX16_row_112 : decode cX16_row 112 = .ok (.iastore, 1) := by decide +kernel
theorem dX16_row_113 : decode cX16_row 113 = .ok (.aload_n 0, 1) := by decide +kernel
theorem dX16_row_114 : decode cX16_row 114 = .ok (.getfield 30, 3) := by decide +kernel
theorem dX16_row_117 : decode cX16_row 117 = .ok (.iload 7, 2) := by decide +kernel
theorem dX16_row_119 : decode cX16_row 119 = .ok (.iconst 1, 1) := by decide +kernel
theorem dX16_row_120 : decode cX16_row 120 = .ok (.iadd, 1) := by decide +kernel
theorem dX16_row_121 : decode cX16_row 121 = .ok (.iload_n 2, 1) := by decide +kernel
theorem dX16_row_122 : decode cX16_row 122 = .ok (.iastore, 1) := by decide +kernel
theorem dX16_row_123 : decode cX16_row 123 = .ok (.aload_n 0, 1) := by decide +kernel
theorem dX16_row_124 : decode cX16_row 124 = .ok (.getfield 30, 3) := by decide +kernel
theorem dX16_row_127 : decode cX16_row 127 = .ok (.iload 7, 2) := by decide +kernel
theorem dX16_row_129 : decode cX16_row 129 = .ok (.iconst 2, 1) := by decide +kernel
theorem dX16_row_130 : decode cX16_row 130 = .ok (.iadd, 1) := by decide +kernel
theorem dX16_row_131 : decode cX16_row 131 = .ok (.iload_n 3, 1) := by decide +kernel
theorem dX16_row_132 : decode cX16_row 132 = .ok (.iastore, 1) := by decide +kernel
theorem dX16_row_133 : decode cX16_row 133 = .ok (.aload_n 0, 1) := by decide +kernel
theorem dX16_row_134 : decode cX16_row 134 = .ok (.getfield 30, 3) := by decide +kernel
theorem dX16_row_137 : decode cX16_row 137 = .ok (.iload 7, 2) := by decide +kernel
theorem dX16_row_139 : decode cX16_row 139 = .ok (.iconst 3, 1) := by decide +kernel
theorem dX16_row_140 : decode cX16_row 140 = .ok (.iadd, 1) := by decide +kernel
theorem dX16_row_141 : decode cX16_row 141 = .ok (.iload 4, 2) := by decide +kernel
theorem dX16_row_143 : decode cX16_row 143 = .ok (.iastore, 1) := by decide +kernel
theorem dX16_row_144 : decode cX16_row 144 = .ok (.aload_n 0, 1) := by decide +kernel
theorem dX16_row_145 : decode cX16_row 145 = .ok (.getfield 30, 3) := by decide +kernel
theorem dX16_row_148 : decode cX16_row 148 = .ok (.iload 7, 2) := by decide +kernel
theorem dX16_row_150 : decode cX16_row 150 = .ok (.iconst 4, 1) := by decide +kernel
theorem dX16_row_151 : decode cX16_row 151 = .ok (.iadd, 1) := by decide +kernel
theorem dX16_row_152 : decode cX16_row 152 = .ok (.iload 5, 2) := by decide +kernel
theorem dX16_row_154 : decode cX16_row 154 = .ok (.iastore, 1) := by decide +kernel
theorem dX16_row_155 : decode cX16_row 155 = .ok (.aload_n 0, 1) := by decide +kernel
theorem dX16_row_156 : decode cX16_row 156 = .ok (.getfield 30, 3) := by decide +kernel
theorem dX16_row_159 : decode cX16_row 159 = .ok (.iload 7, 2) := by decide +kernel
theorem dX16_row_161 : decode cX16_row 161 = .ok (.iconst 5, 1) := by decide +kernel
theorem dX16_row_162 : decode cX16_row 162 = .ok (.iadd, 1) := by decide +kernel
theorem dX16_row_163 : decode cX16_row 163 = .ok (.iload 6, 2) := by decide +kernel
theorem dX16_row_165 : decode cX16_row 165 = .ok (.iastore, 1) := by decide +kernel
theorem dX16_row_166 : decode cX16_row 166 = .ok (.aload_n 0, 1) := by decide +kernel
theorem dX16_row_167 : decode cX16_row 167 = .ok (.getfield 40, 3) := by decide +kernel
theorem dX16_row_170 : decode cX16_row 170 = .ok (.aload_n 0, 1) := by decide +kernel
theorem dX16_row_171 : decode cX16_row 171 = .ok (.getfield 308, 3) := by decide +kernel
theorem dX16_row_174 : decode cX16_row 174 = .ok (.aload_n 0, 1) := by decide +kernel
theorem dX16_row_175 : decode cX16_row 175 = .ok (.getfield 314, 3) := by decide +kernel
theorem dX16_row_178 : decode cX16_row 178 = .ok (.iastore, 1) := by decide +kernel
theorem dX16_row_179 : decode cX16_row 179 = .ok (.aload_n 0, 1) := by decide +kernel
theorem dX16_row_180 : decode cX16_row 180 = .ok (.getfield 43, 3) := by decide +kernel
theorem dX16_row_183 : decode cX16_row 183 = .ok (.aload_n 0, 1) := by decide +kernel
theorem dX16_row_184 : decode cX16_row 184 = .ok (.getfield 308, 3) := by decide +kernel
theorem dX16_row_187 : decode cX16_row 187 = .ok (.iconst (-1), 1) := by decide +kernel
theorem dX16_row_188 : decode cX16_row 188 = .ok (.iastore, 1) := by decide +kernel
theorem dX16_row_189 : decode cX16_row 189 = .ok (.aload_n 0, 1) := by decide +kernel
theorem dX16_row_190 : decode cX16_row 190 = .ok (.getfield 46, 3) := by decide +kernel
theorem dX16_row_193 : decode cX16_row 193 = .ok (.aload_n 0, 1) := by decide +kernel
theorem dX16_row_194 : decode cX16_row 194 = .ok (.getfield 308, 3) := by decide +kernel
theorem dX16_row_197 : decode cX16_row 197 = .ok (.iconst (-1), 1) := by decide +kernel
theorem dX16_row_198 : decode cX16_row 198 = .ok (.iastore, 1) := by decide +kernel
theorem dX16_row_199 : decode cX16_row 199 = .ok (.aload_n 0, 1) := by decide +kernel
theorem dX16_row_200 : decode cX16_row 200 = .ok (.getfield 49, 3) := by decide +kernel
theorem dX16_row_203 : decode cX16_row 203 = .ok (.aload_n 0, 1) := by decide +kernel
theorem dX16_row_204 : decode cX16_row 204 = .ok (.getfield 308, 3) := by decide +kernel
theorem dX16_row_207 : decode cX16_row 207 = .ok (.iconst 0, 1) := by decide +kernel
theorem dX16_row_208 : decode cX16_row 208 = .ok (.iastore, 1) := by decide +kernel
theorem dX16_row_209 : decode cX16_row 209 = .ok (.aload_n 0, 1) := by decide +kernel
theorem dX16_row_210 : decode cX16_row 210 = .ok (.getfield 52, 3) := by decide +kernel
theorem dX16_row_213 : decode cX16_row 213 = .ok (.aload_n 0, 1) := by decide +kernel
theorem dX16_row_214 : decode cX16_row 214 = .ok (.getfield 308, 3) := by decide +kernel
theorem dX16_row_217 : decode cX16_row 217 = .ok (.iconst (-1), 1) := by decide +kernel
theorem dX16_row_218 : decode cX16_row 218 = .ok (.iastore, 1) := by decide +kernel
theorem dX16_row_219 : decode cX16_row 219 = .ok (.aload_n 0, 1) := by decide +kernel
theorem dX16_row_220 : decode cX16_row 220 = .ok (.getfield 55, 3) := by decide +kernel
theorem dX16_row_223 : decode cX16_row 223 = .ok (.aload_n 0, 1) := by decide +kernel
theorem dX16_row_224 : decode cX16_row 224 = .ok (.getfield 308, 3) := by decide +kernel
theorem dX16_row_227 : decode cX16_row 227 = .ok (.iconst 1, 1) := by decide +kernel
theorem dX16_row_228 : decode cX16_row 228 = .ok (.iastore, 1) := by decide +kernel
theorem dX16_row_229 : decode cX16_row 229 = .ok (.aload_n 0, 1) := by decide +kernel
theorem dX16_row_230 : decode cX16_row 230 = .ok (.dup, 1) := by decide +kernel
theorem dX16_row_231 : decode cX16_row 231 = .ok (.getfield 308, 3) := by decide +kernel
theorem dX16_row_234 : decode cX16_row 234 = .ok (.iconst 1, 1) := by decide +kernel
theorem dX16_row_235 : decode cX16_row 235 = .ok (.iadd, 1) := by decide +kernel
theorem dX16_row_236 : decode cX16_row 236 = .ok (.putfield 308, 3) := by decide +kernel
theorem dX16_row_239 : decode cX16_row 239 = .ok (.aload_n 0, 1) := by decide +kernel
theorem dX16_row_240 : decode cX16_row 240 = .ok (.aload_n 0, 1) := by decide +kernel
theorem dX16_row_241 : decode cX16_row 241 = .ok (.getfield 308, 3) := by decide +kernel
theorem dX16_row_244 : decode cX16_row 244 = .ok (.iconst 1, 1) := by decide +kernel
theorem dX16_row_245 : decode cX16_row 245 = .ok (.isub, 1) := by decide +kernel
theorem dX16_row_246 : decode cX16_row 246 = .ok (.invokevirtual 323, 3) := by decide +kernel
theorem dX16_row_249 : decode cX16_row 249 = .ok (.ireturn, 1) := by decide +kernel
theorem dX16_weight_0 : decode cX16_weight 0 = .ok (.aload_n 0, 1) := by decide +kernel
theorem dX16_weight_1 : decode cX16_weight 1 = .ok (.iconst 0, 1) := by decide +kernel
theorem dX16_weight_2 : decode cX16_weight 2 = .ok (.putfield 109, 3) := by decide +kernel
theorem dX16_weight_5 : decode cX16_weight 5 = .ok (.aload_n 0, 1) := by decide +kernel
theorem dX16_weight_6 : decode cX16_weight 6 = .ok (.iload_n 1, 1) := by decide +kernel
theorem dX16_weight_7 : decode cX16_weight 7 = .ok (.invokevirtual 336, 3) := by decide +kernel
theorem dX16_weight_10 : decode cX16_weight 10 = .ok (.ifCond .ne 9, 3) := by decide +kernel
theorem dX16_weight_13 : decode cX16_weight 13 = .ok (.aload_n 0, 1) := by decide +kernel
theorem dX16_weight_14 : decode cX16_weight 14 = .ok (.iconst 1, 1) := by decide +kernel
theorem dX16_weight_15 : decode cX16_weight 15 = .ok (.invokevirtual 339, 3) := by decide +kernel
theorem dX16_weight_18 : decode cX16_weight 18 = .ok (.ireturn, 1) := by decide +kernel
theorem dX16_weight_19 : decode cX16_weight 19 = .ok (.iload_n 2, 1) := by decide +kernel
theorem dX16_weight_20 : decode cX16_weight 20 = .ok (.iconst 1, 1) := by decide +kernel
theorem dX16_weight_21 : decode cX16_weight 21 = .ok (.bipush 99, 2) := by decide +kernel
theorem dX16_weight_23 : decode cX16_weight 23 = .ok (.invokestatic 231, 3) := by decide +kernel
theorem dX16_weight_26 : decode cX16_weight 26 = .ok (.ifCond .ne 9, 3) := by decide +kernel
theorem dX16_weight_29 : decode cX16_weight 29 = .ok (.aload_n 0, 1) := by decide +kernel
theorem dX16_weight_30 : decode cX16_weight 30 = .ok (.iconst 2, 1) := by decide +kernel
theorem dX16_weight_31 : decode cX16_weight 31 = .ok (.invokevirtual 339, 3) := by decide +kernel
theorem dX16_weight_34 : decode cX16_weight 34 = .ok (.ireturn, 1) := by decide +kernel
theorem dX16_weight_35 : decode cX16_weight 35 = .ok (.aload_n 0, 1) := by decide +kernel
theorem dX16_weight_36 : decode cX16_weight 36 = .ok (.getfield 55, 3) := by decide +kernel
theorem dX16_weight_39 : decode cX16_weight 39 = .ok (.iload_n 1, 1) := by decide +kernel
theorem dX16_weight_40 : decode cX16_weight 40 = .ok (.iload_n 2, 1) := by decide +kernel
theorem dX16_weight_41 : decode cX16_weight 41 = .ok (.iastore, 1) := by decide +kernel
theorem dX16_weight_42 : decode cX16_weight 42 = .ok (.aload_n 0, 1) := by decide +kernel
theorem dX16_weight_43 : decode cX16_weight 43 = .ok (.invokevirtual 342, 3) := by decide +kernel
theorem dX16_weight_46 : decode cX16_weight 46 = .ok (.ireturn, 1) := by decide +kernel
theorem dX16_withdraw_0 : decode cX16_withdraw 0 = .ok (.aload_n 0, 1) := by decide +kernel
theorem dX16_withdraw_1 : decode cX16_withdraw 1 = .ok (.iconst 0, 1) := by decide +kernel
theorem dX16_withdraw_2 : decode cX16_withdraw 2 = .ok (.putfield 109, 3) := by decide +kernel
theorem dX16_withdraw_5 : decode cX16_withdraw 5 = .ok (.aload_n 0, 1) := by decide +kernel
theorem dX16_withdraw_6 : decode cX16_withdraw 6 = .ok (.iload_n 1, 1) := by decide +kernel
theorem dX16_withdraw_7 : decode cX16_withdraw 7 = .ok (.invokevirtual 336, 3) := by decide +kernel
theorem dX16_withdraw_10 : decode cX16_withdraw 10 = .ok (.ifCond .ne 9, 3) := by decide +kernel
theorem dX16_withdraw_13 : decode cX16_withdraw 13 = .ok (.aload_n 0, 1) := by decide +kernel
theorem dX16_withdraw_14 : decode cX16_withdraw 14 = .ok (.iconst 1, 1) := by decide +kernel
theorem dX16_withdraw_15 : decode cX16_withdraw 15 = .ok (.invokevirtual 339, 3) := by decide +kernel
theorem dX16_withdraw_18 : decode cX16_withdraw 18 = .ok (.ireturn, 1) := by decide +kernel
theorem dX16_withdraw_19 : decode cX16_withdraw 19 = .ok (.aload_n 0, 1) := by decide +kernel
theorem dX16_withdraw_20 : decode cX16_withdraw 20 = .ok (.getfield 43, 3) := by decide +kernel
theorem dX16_withdraw_23 : decode cX16_withdraw 23 = .ok (.iload_n 1, 1) := by decide +kernel
theorem dX16_withdraw_24 : decode cX16_withdraw 24 = .ok (.iaload, 1) := by decide +kernel
theorem dX16_withdraw_25 : decode cX16_withdraw 25 = .ok (.iconst (-1), 1) := by decide +kernel
theorem dX16_withdraw_26 : decode cX16_withdraw 26 = .ok (.if_icmp .eq 9, 3) := by decide +kernel
theorem dX16_withdraw_29 : decode cX16_withdraw 29 = .ok (.aload_n 0, 1) := by decide +kernel
theorem dX16_withdraw_30 : decode cX16_withdraw 30 = .ok (.iconst 5, 1) := by decide +kernel
theorem dX16_withdraw_31 : decode cX16_withdraw 31 = .ok (.invokevirtual 339, 3) := by decide +kernel
theorem dX16_withdraw_34 : decode cX16_withdraw 34 = .ok (.ireturn, 1) := by decide +kernel
theorem dX16_withdraw_35 : decode cX16_withdraw 35 = .ok (.aload_n 0, 1) := by decide +kernel
theorem dX16_withdraw_36 : decode cX16_withdraw 36 = .ok (.getfield 43, 3) := by decide +kernel
theorem dX16_withdraw_39 : decode cX16_withdraw 39 = .ok (.iload_n 1, 1) := by decide +kernel
theorem dX16_withdraw_40 : decode cX16_withdraw 40 = .ok (.aload_n 0, 1) := by decide +kernel
theorem dX16_withdraw_41 : decode cX16_withdraw 41 = .ok (.getfield 314, 3) := by decide +kernel
theorem dX16_withdraw_44 : decode cX16_withdraw 44 = .ok (.iastore, 1) := by decide +kernel
theorem dX16_withdraw_45 : decode cX16_withdraw 45 = .ok (.aload_n 0, 1) := by decide +kernel
theorem dX16_withdraw_46 : decode cX16_withdraw 46 = .ok (.invokevirtual 342, 3) := by decide +kernel
theorem dX16_withdraw_49 : decode cX16_withdraw 49 = .ok (.ireturn, 1) := by decide +kernel
theorem dX16_valueOf_0 : decode cX16_valueOf 0 = .ok (.bipush 6, 2) := by decide +kernel
theorem dX16_valueOf_2 : decode cX16_valueOf 2 = .ok (.iload_n 1, 1) := by decide +kernel
theorem dX16_valueOf_3 : decode cX16_valueOf 3 = .ok (.imul, 1) := by decide +kernel
theorem dX16_valueOf_4 : decode cX16_valueOf 4 = .ok (.iload_n 2, 1) := by decide +kernel
theorem dX16_valueOf_5 : decode cX16_valueOf 5 = .ok (.iadd, 1) := by decide +kernel
theorem dX16_valueOf_6 : decode cX16_valueOf 6 = .ok (.istore 5, 2) := by decide +kernel
theorem dX16_valueOf_8 : decode cX16_valueOf 8 = .ok (.aload_n 0, 1) := by decide +kernel
theorem dX16_valueOf_9 : decode cX16_valueOf 9 = .ok (.getfield 46, 3) := by decide +kernel
theorem dX16_valueOf_12 : decode cX16_valueOf 12 = .ok (.iload_n 1, 1) := by decide +kernel
theorem dX16_valueOf_13 : decode cX16_valueOf 13 = .ok (.iaload, 1) := by decide +kernel
theorem dX16_valueOf_14 : decode cX16_valueOf 14 = .ok (.iconst (-1), 1) := by decide +kernel
theorem dX16_valueOf_15 : decode cX16_valueOf 15 = .ok (.if_icmp .eq 35, 3) := by decide +kernel
theorem dX16_valueOf_18 : decode cX16_valueOf 18 = .ok (.iload_n 3, 1) := by decide +kernel
theorem dX16_valueOf_19 : decode cX16_valueOf 19 = .ok (.aload_n 0, 1) := by decide +kernel
theorem dX16_valueOf_20 : decode cX16_valueOf 20 = .ok (.getfield 46, 3) := by decide +kernel
theorem dX16_valueOf_23 : decode cX16_valueOf 23 = .ok (.iload_n 1, 1) := by decide +kernel
theorem dX16_valueOf_24 : decode cX16_valueOf 24 = .ok (.iaload, 1) := by decide +kernel
theorem dX16_valueOf_25 : decode cX16_valueOf 25 = .ok (.if_icmp .lt 25, 3) := by decide +kernel
theorem dX16_valueOf_28 : decode cX16_valueOf 28 = .ok (.aload_n 0, 1) := by decide +kernel
theorem dX16_valueOf_29 : decode cX16_valueOf 29 = .ok (.getfield 49, 3) := by decide +kernel
theorem dX16_valueOf_32 : decode cX16_valueOf 32 = .ok (.iload_n 1, 1) := by decide +kernel
theorem dX16_valueOf_33 : decode cX16_valueOf 33 = .ok (.iaload, 1) := by decide +kernel
theorem dX16_valueOf_34 : decode cX16_valueOf 34 = .ok (.iload_n 2, 1) := by decide +kernel
theorem dX16_valueOf_35 : decode cX16_valueOf 35 = .ok (.ishr, 1) := by decide +kernel
theorem dX16_valueOf_36 : decode cX16_valueOf 36 = .ok (.iconst 1, 1) := by decide +kernel
theorem dX16_valueOf_37 : decode cX16_valueOf 37 = .ok (.iand, 1) := by decide +kernel
theorem dX16_valueOf_38 : decode cX16_valueOf 38 = .ok (.iconst 1, 1) := by decide +kernel
theorem dX16_valueOf_39 : decode cX16_valueOf 39 = .ok (.if_icmp .ne 11, 3) := by decide +kernel
theorem dX16_valueOf_42 : decode cX16_valueOf 42 = .ok (.aload_n 0, 1) := by decide +kernel
theorem dX16_valueOf_43 : decode cX16_valueOf 43 = .ok (.getfield 34, 3) := by decide +kernel
theorem dX16_valueOf_46 : decode cX16_valueOf 46 = .ok (.iload 5, 2) := by decide +kernel
theorem dX16_valueOf_48 : decode cX16_valueOf 48 = .ok (.iaload, 1) := by decide +kernel
theorem dX16_valueOf_49 : decode cX16_valueOf 49 = .ok (.ireturn, 1) := by decide +kernel
theorem dX16_valueOf_50 : decode cX16_valueOf 50 = .ok (.aload_n 0, 1) := by decide +kernel
theorem dX16_valueOf_51 : decode cX16_valueOf 51 = .ok (.getfield 30, 3) := by decide +kernel
theorem dX16_valueOf_54 : decode cX16_valueOf 54 = .ok (.iload 5, 2) := by decide +kernel
theorem dX16_valueOf_56 : decode cX16_valueOf 56 = .ok (.iaload, 1) := by decide +kernel
theorem dX16_valueOf_57 : decode cX16_valueOf 57 = .ok (.iconst (-1), 1) := by decide +kernel
theorem dX16_valueOf_58 : decode cX16_valueOf 58 = .ok (.if_icmp .ne 42, 3) := by decide +kernel
theorem dX16_valueOf_61 : decode cX16_valueOf 61 = .ok (.aload_n 0, 1) := by decide +kernel
theorem dX16_valueOf_62 : decode cX16_valueOf 62 = .ok (.getfield 52, 3) := by decide +kernel
theorem dX16_valueOf_65 : decode cX16_valueOf 65 = .ok (.iload_n 1, 1) := by decide +kernel
theorem dX16_valueOf_66 : decode cX16_valueOf 66 = .ok (.iaload, 1) := by decide +kernel
theorem dX16_valueOf_67 : decode cX16_valueOf 67 = .ok (.iconst (-1), 1) := by decide +kernel
theorem dX16_valueOf_68 : decode cX16_valueOf 68 = .ok (.if_icmp .eq 32, 3) := by decide +kernel
theorem dX16_valueOf_71 : decode cX16_valueOf 71 = .ok (.iload_n 3, 1) := by decide +kernel
theorem dX16_valueOf_72 : decode cX16_valueOf 72 = .ok (.aload_n 0, 1) := by decide +kernel
theorem dX16_valueOf_73 : decode cX16_valueOf 73 = .ok (.getfield 52, 3) := by decide +kernel
theorem dX16_valueOf_76 : decode cX16_valueOf 76 = .ok (.iload_n 1, 1) := by decide +kernel
theorem dX16_valueOf_77 : decode cX16_valueOf 77 = .ok (.iaload, 1) := by decide +kernel
theorem dX16_valueOf_78 : decode cX16_valueOf 78 = .ok (.if_icmp .lt 22, 3) := by decide +kernel
theorem dX16_valueOf_81 : decode cX16_valueOf 81 = .ok (.aload_n 0, 1) := by decide +kernel
theorem dX16_valueOf_82 : decode cX16_valueOf 82 = .ok (.getfield 37, 3) := by decide +kernel
theorem dX16_valueOf_85 : decode cX16_valueOf 85 = .ok (.bipush 6, 2) := by decide +kernel
theorem dX16_valueOf_87 : decode cX16_valueOf 87 = .ok (.iconst 5, 1) := by decide +kernel
theorem dX16_valueOf_88 : decode cX16_valueOf 88 = .ok (.iload_n 1, 1) := by decide +kernel
theorem dX16_valueOf_89 : decode cX16_valueOf 89 = .ok (.imul, 1) := by decide +kernel
theorem dX16_valueOf_90 : decode cX16_valueOf 90 = .ok (.iload 4, 2) := by decide +kernel
theorem dX16_valueOf_92 : decode cX16_valueOf 92 = .ok (.iadd, 1) := by decide +kernel
theorem dX16_valueOf_93 : decode cX16_valueOf 93 = .ok (.imul, 1) := by decide +kernel
theorem dX16_valueOf_94 : decode cX16_valueOf 94 = .ok (.iload_n 2, 1) := by decide +kernel
theorem dX16_valueOf_95 : decode cX16_valueOf 95 = .ok (.iadd, 1) := by decide +kernel
theorem dX16_valueOf_96 : decode cX16_valueOf 96 = .ok (.iaload, 1) := by decide +kernel
theorem dX16_valueOf_97 : decode cX16_valueOf 97 = .ok (.goto 10, 3) := by decide +kernel
theorem dX16_valueOf_100 : decode cX16_valueOf 100 = .ok (.aload_n 0, 1) := by decide +kernel
theorem dX16_valueOf_101 : decode cX16_valueOf 101 = .ok (.getfield 30, 3) := by decide +kernel
theorem dX16_valueOf_104 : decode cX16_valueOf 104 = .ok (.iload 5, 2) := by decide +kernel
theorem dX16_valueOf_106 : decode cX16_valueOf 106 = .ok (.iaload, 1) := by decide +kernel
theorem dX16_valueOf_107 : decode cX16_valueOf 107 = .ok (.ireturn, 1) := by decide +kernel
theorem dX16_loads_0 : decode cX16_loads 0 = .ok (.iconst 0, 1) := by decide +kernel
theorem dX16_loads_1 : decode cX16_loads 1 = .ok (.istore 5, 2) := by decide +kernel
theorem dX16_loads_3 : decode cX16_loads 3 = .ok (.iload 5, 2) := by decide +kernel
theorem dX16_loads_5 : decode cX16_loads 5 = .ok (.aload_n 0, 1) := by decide +kernel
theorem dX16_loads_6 : decode cX16_loads 6 = .ok (.getfield 274, 3) := by decide +kernel
theorem dX16_loads_9 : decode cX16_loads 9 = .ok (.getfield 218, 3) := by decide +kernel
theorem dX16_loads_12 : decode cX16_loads 12 = .ok (.if_icmp .ge 23, 3) := by decide +kernel
theorem dX16_loads_15 : decode cX16_loads 15 = .ok (.aload 4, 2) := by decide +kernel
theorem dX16_loads_17 : decode cX16_loads 17 = .ok (.iload 5, 2) := by decide +kernel
theorem dX16_loads_19 : decode cX16_loads 19 = .ok (.aload_n 0, 1) := by decide +kernel
theorem dX16_loads_20 : decode cX16_loads 20 = .ok (.iload_n 1, 1) := by decide +kernel
theorem dX16_loads_21 : decode cX16_loads 21 = .ok (.iload 5, 2) := by decide +kernel
theorem dX16_loads_23 : decode cX16_loads 23 = .ok (.iload_n 2, 1) := by decide +kernel
theorem dX16_loads_24 : decode cX16_loads 24 = .ok (.iload_n 3, 1) := by decide +kernel
theorem dX16_loads_25 : decode cX16_loads 25 = .ok (.invokevirtual 345, 3) := by decide +kernel
theorem dX16_loads_28 : decode cX16_loads 28 = .ok (.iastore, 1) := by decide +kernel
theorem dX16_loads_29 : decode cX16_loads 29 = .ok (.iinc 5 1, 3) := by decide +kernel
theorem dX16_loads_32 : decode cX16_loads 32 = .ok (.goto (-29), 3) := by decide +kernel
theorem dX16_loads_35 : decode cX16_loads 35 = .ok (.return_, 1) := by decide +kernel
theorem dX16_isThere_0 : decode cX16_isThere 0 = .ok (.iload_n 2, 1) := by decide +kernel
theorem dX16_isThere_1 : decode cX16_isThere 1 = .ok (.aload_n 0, 1) := by decide +kernel
theorem dX16_isThere_2 : decode cX16_isThere 2 = .ok (.getfield 40, 3) := by decide +kernel
theorem dX16_isThere_5 : decode cX16_isThere 5 = .ok (.iload_n 1, 1) := by decide +kernel
theorem dX16_isThere_6 : decode cX16_isThere 6 = .ok (.iaload, 1) := by decide +kernel
theorem dX16_isThere_7 : decode cX16_isThere 7 = .ok (.if_icmp .lt 27, 3) := by decide +kernel
theorem dX16_isThere_10 : decode cX16_isThere 10 = .ok (.aload_n 0, 1) := by decide +kernel
theorem dX16_isThere_11 : decode cX16_isThere 11 = .ok (.getfield 43, 3) := by decide +kernel
theorem dX16_isThere_14 : decode cX16_isThere 14 = .ok (.iload_n 1, 1) := by decide +kernel
theorem dX16_isThere_15 : decode cX16_isThere 15 = .ok (.iaload, 1) := by decide +kernel
theorem dX16_isThere_16 : decode cX16_isThere 16 = .ok (.iconst (-1), 1) := by decide +kernel
theorem dX16_isThere_17 : decode cX16_isThere 17 = .ok (.if_icmp .eq 13, 3) := by decide +kernel
theorem dX16_isThere_20 : decode cX16_isThere 20 = .ok (.iload_n 2, 1) := by decide +kernel
theorem dX16_isThere_21 : decode cX16_isThere 21 = .ok (.aload_n 0, 1) := by decide +kernel
theorem dX16_isThere_22 : decode cX16_isThere 22 = .ok (.getfield 43, 3) := by decide +kernel
theorem dX16_isThere_25 : decode cX16_isThere 25 = .ok (.iload_n 1, 1) := by decide +kernel
theorem dX16_isThere_26 : decode cX16_isThere 26 = .ok (.iaload, 1) := by decide +kernel
theorem dX16_isThere_27 : decode cX16_isThere 27 = .ok (.if_icmp .ge 7, 3) := by decide +kernel
theorem dX16_isThere_30 : decode cX16_isThere 30 = .ok (.iconst 1, 1) := by decide +kernel
theorem dX16_isThere_31 : decode cX16_isThere 31 = .ok (.goto 4, 3) := by decide +kernel
theorem dX16_isThere_34 : decode cX16_isThere 34 = .ok (.iconst 0, 1) := by decide +kernel
theorem dX16_isThere_35 : decode cX16_isThere 35 = .ok (.ireturn, 1) := by decide +kernel
theorem dX16_value_0 : decode cX16_value 0 = .ok (.aload_n 0, 1) := by decide +kernel
theorem dX16_value_1 : decode cX16_value 1 = .ok (.iconst 0, 1) := by decide +kernel
theorem dX16_value_2 : decode cX16_value 2 = .ok (.putfield 109, 3) := by decide +kernel
theorem dX16_value_5 : decode cX16_value 5 = .ok (.aload_n 0, 1) := by decide +kernel
theorem dX16_value_6 : decode cX16_value 6 = .ok (.iload_n 1, 1) := by decide +kernel
theorem dX16_value_7 : decode cX16_value 7 = .ok (.invokevirtual 336, 3) := by decide +kernel
theorem dX16_value_10 : decode cX16_value 10 = .ok (.ifCond .eq 50, 3) := by decide +kernel
theorem dX16_value_13 : decode cX16_value 13 = .ok (.aload_n 0, 1) := by decide +kernel
theorem dX16_value_14 : decode cX16_value 14 = .ok (.iload_n 2, 1) := by decide +kernel
theorem dX16_value_15 : decode cX16_value 15 = .ok (.invokevirtual 330, 3) := by decide +kernel
theorem dX16_value_18 : decode cX16_value 18 = .ok (.ifCond .eq 42, 3) := by decide +kernel
theorem dX16_value_21 : decode cX16_value 21 = .ok (.iload_n 3, 1) := by decide +kernel
theorem dX16_value_22 : decode cX16_value 22 = .ok (.aload_n 0, 1) := by decide +kernel
theorem dX16_value_23 : decode cX16_value 23 = .ok (.getfield 40, 3) := by decide +kernel
theorem dX16_value_26 : decode cX16_value 26 = .ok (.iload_n 1, 1) := by decide +kernel
theorem dX16_value_27 : decode cX16_value 27 = .ok (.iaload, 1) := by decide +kernel
theorem dX16_value_28 : decode cX16_value 28 = .ok (.aload_n 0, 1) := by decide +kernel
theorem dX16_value_29 : decode cX16_value 29 = .ok (.getfield 314, 3) := by decide +kernel
theorem dX16_value_32 : decode cX16_value 32 = .ok (.invokestatic 231, 3) := by decide +kernel
theorem dX16_value_35 : decode cX16_value 35 = .ok (.ifCond .eq 25, 3) := by decide +kernel
theorem dX16_value_38 : decode cX16_value 38 = .ok (.iload 4, 2) := by decide +kernel
theorem dX16_value_40 : decode cX16_value 40 = .ok (.iconst 0, 1) := by decide +kernel
theorem dX16_value_41 : decode cX16_value 41 = .ok (.iconst 4, 1) := by decide +kernel
theorem dX16_value_42 : decode cX16_value 42 = .ok (.invokestatic 231, 3) := by decide +kernel
theorem dX16_value_45 : decode cX16_value 45 = .ok (.ifCond .eq 15, 3) := by decide +kernel
theorem dX16_value_48 : decode cX16_value 48 = .ok (.aload_n 0, 1) := by decide +kernel
theorem dX16_value_49 : decode cX16_value 49 = .ok (.iload_n 1, 1) := by decide +kernel
theorem dX16_value_50 : decode cX16_value 50 = .ok (.iload_n 2, 1) := by decide +kernel
theorem dX16_value_51 : decode cX16_value 51 = .ok (.iload_n 3, 1) := by decide +kernel
theorem dX16_value_52 : decode cX16_value 52 = .ok (.iload 4, 2) := by decide +kernel
theorem dX16_value_54 : decode cX16_value 54 = .ok (.invokevirtual 345, 3) := by decide +kernel
theorem dX16_value_57 : decode cX16_value 57 = .ok (.goto 5, 3) := by decide +kernel
theorem dX16_value_60 : decode cX16_value 60 = .ok (.bipush (-2), 2) := by decide +kernel
theorem dX16_value_62 : decode cX16_value 62 = .ok (.ireturn, 1) := by decide +kernel
theorem dX16_gapsOf_0 : decode cX16_gapsOf 0 = .ok (.iconst 0, 1) := by decide +kernel
theorem dX16_gapsOf_1 : decode cX16_gapsOf 1 = .ok (.istore_n 2, 1) := by decide +kernel
theorem dX16_gapsOf_2 : decode cX16_gapsOf 2 = .ok (.iconst 0, 1) := by decide +kernel
theorem dX16_gapsOf_3 : decode cX16_gapsOf 3 = .ok (.istore_n 3, 1) := by decide +kernel
theorem dX16_gapsOf_4 : decode cX16_gapsOf 4 = .ok (.iload_n 3, 1) := by decide +kernel
theorem dX16_gapsOf_5 : decode cX16_gapsOf 5 = .ok (.aload_n 0, 1) := by decide +kernel
theorem dX16_gapsOf_6 : decode cX16_gapsOf 6 = .ok (.getfield 274, 3) := by decide +kernel
theorem dX16_gapsOf_9 : decode cX16_gapsOf 9 = .ok (.getfield 218, 3) := by decide +kernel
theorem dX16_gapsOf_12 : decode cX16_gapsOf 12 = .ok (.if_icmp .ge 24, 3) := by decide +kernel
theorem dX16_gapsOf_15 : decode cX16_gapsOf 15 = .ok (.iload_n 2, 1) := by decide +kernel
theorem dX16_gapsOf_16 : decode cX16_gapsOf 16 = .ok (.aload_n 1, 1) := by decide +kernel
theorem dX16_gapsOf_17 : decode cX16_gapsOf 17 = .ok (.iload_n 3, 1) := by decide +kernel
theorem dX16_gapsOf_18 : decode cX16_gapsOf 18 = .ok (.iaload, 1) := by decide +kernel
theorem dX16_gapsOf_19 : decode cX16_gapsOf 19 = .ok (.iconst (-1), 1) := by decide +kernel
theorem dX16_gapsOf_20 : decode cX16_gapsOf 20 = .ok (.if_icmp .ne 7, 3) := by decide +kernel
theorem dX16_gapsOf_23 : decode cX16_gapsOf 23 = .ok (.iconst 1, 1) := by decide +kernel
theorem dX16_gapsOf_24 : decode cX16_gapsOf 24 = .ok (.goto 4, 3) := by decide +kernel
theorem dX16_gapsOf_27 : decode cX16_gapsOf 27 = .ok (.iconst 0, 1) := by decide +kernel
theorem dX16_gapsOf_28 : decode cX16_gapsOf 28 = .ok (.iadd, 1) := by decide +kernel
theorem dX16_gapsOf_29 : decode cX16_gapsOf 29 = .ok (.istore_n 2, 1) := by decide +kernel
theorem dX16_gapsOf_30 : decode cX16_gapsOf 30 = .ok (.iinc 3 1, 3) := by decide +kernel
theorem dX16_gapsOf_33 : decode cX16_gapsOf 33 = .ok (.goto (-29), 3) := by decide +kernel
theorem dX16_gapsOf_36 : decode cX16_gapsOf 36 = .ok (.iload_n 2, 1) := by decide +kernel
theorem dX16_gapsOf_37 : decode cX16_gapsOf 37 = .ok (.ireturn, 1) := by decide +kernel
theorem dX16_orTwo_0 : decode cX16_orTwo 0 = .ok (.iload_n 0, 1) := by decide +kernel
theorem dX16_orTwo_1 : decode cX16_orTwo 1 = .ok (.iconst (-1), 1) := by decide +kernel
theorem dX16_orTwo_2 : decode cX16_orTwo 2 = .ok (.if_icmp .ne 8, 3) := by decide +kernel
theorem dX16_orTwo_5 : decode cX16_orTwo 5 = .ok (.bipush (-2), 2) := by decide +kernel
theorem dX16_orTwo_7 : decode cX16_orTwo 7 = .ok (.goto 4, 3) := by decide +kernel
theorem dX16_orTwo_10 : decode cX16_orTwo 10 = .ok (.iload_n 0, 1) := by decide +kernel
theorem dX16_orTwo_11 : decode cX16_orTwo 11 = .ok (.ireturn, 1) := by decide +kernel
theorem dX16_of_0 : decode cX16_of 0 = .ok (.aload_n 0, 1) := by decide +kernel
theorem dX16_of_1 : decode cX16_of 1 = .ok (.iconst 0, 1) := by decide +kernel
theorem dX16_of_2 : decode cX16_of 2 = .ok (.putfield 109, 3) := by decide +kernel
theorem dX16_of_5 : decode cX16_of 5 = .ok (.aload_n 0, 1) := by decide +kernel
theorem dX16_of_6 : decode cX16_of 6 = .ok (.iload_n 1, 1) := by decide +kernel
theorem dX16_of_7 : decode cX16_of 7 = .ok (.invokevirtual 336, 3) := by decide +kernel
theorem dX16_of_10 : decode cX16_of 10 = .ok (.ifCond .ne 5, 3) := by decide +kernel
theorem dX16_of_13 : decode cX16_of 13 = .ok (.iconst (-1), 1) := by decide +kernel
theorem dX16_of_14 : decode cX16_of 14 = .ok (.ireturn, 1) := by decide +kernel
theorem dX16_of_15 : decode cX16_of 15 = .ok (.aload_n 0, 1) := by decide +kernel
theorem dX16_of_16 : decode cX16_of 16 = .ok (.iload_n 1, 1) := by decide +kernel
theorem dX16_of_17 : decode cX16_of 17 = .ok (.aload_n 0, 1) := by decide +kernel
theorem dX16_of_18 : decode cX16_of 18 = .ok (.getfield 314, 3) := by decide +kernel
theorem dX16_of_21 : decode cX16_of 21 = .ok (.iconst 0, 1) := by decide +kernel
theorem dX16_of_22 : decode cX16_of 22 = .ok (.aload_n 0, 1) := by decide +kernel
theorem dX16_of_23 : decode cX16_of 23 = .ok (.getfield 58, 3) := by decide +kernel
theorem dX16_of_26 : decode cX16_of 26 = .ok (.invokevirtual 349, 3) := by decide +kernel
theorem dX16_of_29 : decode cX16_of 29 = .ok (.iload_n 2, 1) := by decide +kernel
theorem dX16_of_30 : decode cX16_of 30 = .ok (.tableswitch 132 0 6 #[42, 60, 81, 90, 100, 110, 117], 42) := by decide +kernel
theorem dX16_of_72 : decode cX16_of 72 = .ok (.aload_n 0, 1) := by decide +kernel
theorem dX16_of_73 : decode cX16_of 73 = .ok (.iload_n 1, 1) := by decide +kernel
theorem dX16_of_74 : decode cX16_of 74 = .ok (.aload_n 0, 1) := by decide +kernel
theorem dX16_of_75 : decode cX16_of 75 = .ok (.getfield 314, 3) := by decide +kernel
theorem dX16_of_78 : decode cX16_of 78 = .ok (.invokevirtual 353, 3) := by decide +kernel
theorem dX16_of_81 : decode cX16_of 81 = .ok (.ifCond .eq 7, 3) := by decide +kernel
theorem dX16_of_84 : decode cX16_of 84 = .ok (.iconst 1, 1) := by decide +kernel
theorem dX16_of_85 : decode cX16_of 85 = .ok (.goto 4, 3) := by decide +kernel
theorem dX16_of_88 : decode cX16_of 88 = .ok (.iconst 0, 1) := by decide +kernel
theorem dX16_of_89 : decode cX16_of 89 = .ok (.ireturn, 1) := by decide +kernel
theorem dX16_of_90 : decode cX16_of 90 = .ok (.aload_n 0, 1) := by decide +kernel
theorem dX16_of_91 : decode cX16_of 91 = .ok (.getfield 274, 3) := by decide +kernel
theorem dX16_of_94 : decode cX16_of 94 = .ok (.aload_n 0, 1) := by decide +kernel
theorem dX16_of_95 : decode cX16_of 95 = .ok (.getfield 58, 3) := by decide +kernel
theorem dX16_of_98 : decode cX16_of 98 = .ok (.invokevirtual 356, 3) := by decide +kernel
theorem dX16_of_101 : decode cX16_of 101 = .ok (.iconst (-1), 1) := by decide +kernel
theorem dX16_of_102 : decode cX16_of 102 = .ok (.if_icmp .eq 7, 3) := by decide +kernel
theorem dX16_of_105 : decode cX16_of 105 = .ok (.iconst 1, 1) := by decide +kernel
theorem dX16_of_106 : decode cX16_of 106 = .ok (.goto 4, 3) := by decide +kernel
theorem dX16_of_109 : decode cX16_of 109 = .ok (.iconst 0, 1) := by decide +kernel
theorem dX16_of_110 : decode cX16_of 110 = .ok (.ireturn, 1) := by decide +kernel
theorem dX16_of_111 : decode cX16_of 111 = .ok (.aload_n 0, 1) := by decide +kernel
theorem dX16_of_112 : decode cX16_of 112 = .ok (.aload_n 0, 1) := by decide +kernel
theorem dX16_of_113 : decode cX16_of 113 = .ok (.getfield 58, 3) := by decide +kernel
theorem dX16_of_116 : decode cX16_of 116 = .ok (.invokevirtual 360, 3) := by decide +kernel
theorem dX16_of_119 : decode cX16_of 119 = .ok (.ireturn, 1) := by decide +kernel
theorem dX16_of_120 : decode cX16_of 120 = .ok (.aload_n 0, 1) := by decide +kernel
theorem dX16_of_121 : decode cX16_of 121 = .ok (.getfield 46, 3) := by decide +kernel
theorem dX16_of_124 : decode cX16_of 124 = .ok (.iload_n 1, 1) := by decide +kernel
theorem dX16_of_125 : decode cX16_of 125 = .ok (.iaload, 1) := by decide +kernel
theorem dX16_of_126 : decode cX16_of 126 = .ok (.invokestatic 363, 3) := by decide +kernel
theorem dX16_of_129 : decode cX16_of 129 = .ok (.ireturn, 1) := by decide +kernel
theorem dX16_of_130 : decode cX16_of 130 = .ok (.aload_n 0, 1) := by decide +kernel
theorem dX16_of_131 : decode cX16_of 131 = .ok (.getfield 52, 3) := by decide +kernel
theorem dX16_of_134 : decode cX16_of 134 = .ok (.iload_n 1, 1) := by decide +kernel
theorem dX16_of_135 : decode cX16_of 135 = .ok (.iaload, 1) := by decide +kernel
theorem dX16_of_136 : decode cX16_of 136 = .ok (.invokestatic 363, 3) := by decide +kernel
theorem dX16_of_139 : decode cX16_of 139 = .ok (.ireturn, 1) := by decide +kernel
theorem dX16_of_140 : decode cX16_of 140 = .ok (.aload_n 0, 1) := by decide +kernel
theorem dX16_of_141 : decode cX16_of 141 = .ok (.getfield 55, 3) := by decide +kernel
theorem dX16_of_144 : decode cX16_of 144 = .ok (.iload_n 1, 1) := by decide +kernel
theorem dX16_of_145 : decode cX16_of 145 = .ok (.iaload, 1) := by decide +kernel
theorem dX16_of_146 : decode cX16_of 146 = .ok (.ireturn, 1) := by decide +kernel
theorem dX16_of_147 : decode cX16_of 147 = .ok (.aload_n 0, 1) := by decide +kernel
theorem dX16_of_148 : decode cX16_of 148 = .ok (.getfield 274, 3) := by decide +kernel
theorem dX16_of_151 : decode cX16_of 151 = .ok (.aload_n 0, 1) := by decide +kernel
theorem dX16_of_152 : decode cX16_of 152 = .ok (.getfield 58, 3) := by decide +kernel
theorem dX16_of_155 : decode cX16_of 155 = .ok (.invokevirtual 356, 3) := by decide +kernel
theorem dX16_of_158 : decode cX16_of 158 = .ok (.invokestatic 363, 3) := by decide +kernel
theorem dX16_of_161 : decode cX16_of 161 = .ok (.ireturn, 1) := by decide +kernel
theorem dX16_of_162 : decode cX16_of 162 = .ok (.iconst (-1), 1) := by decide +kernel
theorem dX16_of_163 : decode cX16_of 163 = .ok (.ireturn, 1) := by decide +kernel
theorem dX16_bits_0 : decode cX16_bits 0 = .ok (.iconst 0, 1) := by decide +kernel
theorem dX16_bits_1 : decode cX16_bits 1 = .ok (.istore_n 1, 1) := by decide +kernel
theorem dX16_bits_2 : decode cX16_bits 2 = .ok (.iload_n 0, 1) := by decide +kernel
theorem dX16_bits_3 : decode cX16_bits 3 = .ok (.istore_n 2, 1) := by decide +kernel
theorem dX16_bits_4 : decode cX16_bits 4 = .ok (.iload_n 2, 1) := by decide +kernel
theorem dX16_bits_5 : decode cX16_bits 5 = .ok (.ifCond .eq 15, 3) := by decide +kernel
theorem dX16_bits_8 : decode cX16_bits 8 = .ok (.iinc 1 1, 3) := by decide +kernel
theorem dX16_bits_11 : decode cX16_bits 11 = .ok (.iload_n 2, 1) := by decide +kernel
theorem dX16_bits_12 : decode cX16_bits 12 = .ok (.iload_n 2, 1) := by decide +kernel
theorem dX16_bits_13 : decode cX16_bits 13 = .ok (.iconst 1, 1) := by decide +kernel
theorem dX16_bits_14 : decode cX16_bits 14 = .ok (.isub, 1) := by decide +kernel
theorem dX16_bits_15 : decode cX16_bits 15 = .ok (.iand, 1) := by decide +kernel
theorem dX16_bits_16 : decode cX16_bits 16 = .ok (.istore_n 2, 1) := by decide +kernel
theorem dX16_bits_17 : decode cX16_bits 17 = .ok (.goto (-13), 3) := by decide +kernel
theorem dX16_bits_20 : decode cX16_bits 20 = .ok (.iload_n 1, 1) := by decide +kernel
theorem dX16_bits_21 : decode cX16_bits 21 = .ok (.ireturn, 1) := by decide +kernel
theorem dX16_costOf_0 : decode cX16_costOf 0 = .ok (.iconst 0, 1) := by decide +kernel
theorem dX16_costOf_1 : decode cX16_costOf 1 = .ok (.istore_n 2, 1) := by decide +kernel
theorem dX16_costOf_2 : decode cX16_costOf 2 = .ok (.iconst 0, 1) := by decide +kernel
theorem dX16_costOf_3 : decode cX16_costOf 3 = .ok (.istore_n 3, 1) := by decide +kernel
theorem dX16_costOf_4 : decode cX16_costOf 4 = .ok (.iload_n 3, 1) := by decide +kernel
theorem dX16_costOf_5 : decode cX16_costOf 5 = .ok (.aload_n 0, 1) := by decide +kernel
theorem dX16_costOf_6 : decode cX16_costOf 6 = .ok (.getfield 274, 3) := by decide +kernel
theorem dX16_costOf_9 : decode cX16_costOf 9 = .ok (.getfield 218, 3) := by decide +kernel
theorem dX16_costOf_12 : decode cX16_costOf 12 = .ok (.if_icmp .ge 34, 3) := by decide +kernel
theorem dX16_costOf_15 : decode cX16_costOf 15 = .ok (.iload_n 2, 1) := by decide +kernel
theorem dX16_costOf_16 : decode cX16_costOf 16 = .ok (.iload_n 1, 1) := by decide +kernel
theorem dX16_costOf_17 : decode cX16_costOf 17 = .ok (.iload_n 3, 1) := by decide +kernel
theorem dX16_costOf_18 : decode cX16_costOf 18 = .ok (.ishr, 1) := by decide +kernel
theorem dX16_costOf_19 : decode cX16_costOf 19 = .ok (.iconst 1, 1) := by decide +kernel
theorem dX16_costOf_20 : decode cX16_costOf 20 = .ok (.iand, 1) := by decide +kernel
theorem dX16_costOf_21 : decode cX16_costOf 21 = .ok (.iconst 1, 1) := by decide +kernel
theorem dX16_costOf_22 : decode cX16_costOf 22 = .ok (.if_icmp .ne 15, 3) := by decide +kernel
theorem dX16_costOf_25 : decode cX16_costOf 25 = .ok (.aload_n 0, 1) := by decide +kernel
theorem dX16_costOf_26 : decode cX16_costOf 26 = .ok (.getfield 274, 3) := by decide +kernel
theorem dX16_costOf_29 : decode cX16_costOf 29 = .ok (.getfield 239, 3) := by decide +kernel
theorem dX16_costOf_32 : decode cX16_costOf 32 = .ok (.iload_n 3, 1) := by decide +kernel
theorem dX16_costOf_33 : decode cX16_costOf 33 = .ok (.iaload, 1) := by decide +kernel
theorem dX16_costOf_34 : decode cX16_costOf 34 = .ok (.goto 4, 3) := by decide +kernel
theorem dX16_costOf_37 : decode cX16_costOf 37 = .ok (.iconst 0, 1) := by decide +kernel
theorem dX16_costOf_38 : decode cX16_costOf 38 = .ok (.iadd, 1) := by decide +kernel
theorem dX16_costOf_39 : decode cX16_costOf 39 = .ok (.istore_n 2, 1) := by decide +kernel
theorem dX16_costOf_40 : decode cX16_costOf 40 = .ok (.iinc 3 1, 3) := by decide +kernel
theorem dX16_costOf_43 : decode cX16_costOf 43 = .ok (.goto (-39), 3) := by decide +kernel
theorem dX16_costOf_46 : decode cX16_costOf 46 = .ok (.iload_n 2, 1) := by decide +kernel
theorem dX16_costOf_47 : decode cX16_costOf 47 = .ok (.ireturn, 1) := by decide +kernel
theorem dX16_isMended_0 : decode cX16_isMended 0 = .ok (.iconst 1, 1) := by decide +kernel
theorem dX16_isMended_1 : decode cX16_isMended 1 = .ok (.istore_n 3, 1) := by decide +kernel
theorem dX16_isMended_2 : decode cX16_isMended 2 = .ok (.iconst 0, 1) := by decide +kernel
theorem dX16_isMended_3 : decode cX16_isMended 3 = .ok (.istore 4, 2) := by decide +kernel
theorem dX16_isMended_5 : decode cX16_isMended 5 = .ok (.iload 4, 2) := by decide +kernel
theorem dX16_isMended_7 : decode cX16_isMended 7 = .ok (.aload_n 0, 1) := by decide +kernel
theorem dX16_isMended_8 : decode cX16_isMended 8 = .ok (.getfield 274, 3) := by decide +kernel
theorem dX16_isMended_11 : decode cX16_isMended 11 = .ok (.getfield 218, 3) := by decide +kernel
theorem dX16_isMended_14 : decode cX16_isMended 14 = .ok (.if_icmp .ge 38, 3) := by decide +kernel
theorem dX16_isMended_17 : decode cX16_isMended 17 = .ok (.iload_n 3, 1) := by decide +kernel
theorem dX16_isMended_18 : decode cX16_isMended 18 = .ok (.iload_n 1, 1) := by decide +kernel
theorem dX16_isMended_19 : decode cX16_isMended 19 = .ok (.iload 4, 2) := by decide +kernel
theorem dX16_isMended_21 : decode cX16_isMended 21 = .ok (.ishr, 1) := by decide +kernel
theorem dX16_isMended_22 : decode cX16_isMended 22 = .ok (.iconst 1, 1) := by decide +kernel
theorem dX16_isMended_23 : decode cX16_isMended 23 = .ok (.iand, 1) := by decide +kernel
theorem dX16_isMended_24 : decode cX16_isMended 24 = .ok (.iconst 1, 1) := by decide +kernel
theorem dX16_isMended_25 : decode cX16_isMended 25 = .ok (.if_icmp .ne 18, 3) := by decide +kernel
theorem dX16_isMended_28 : decode cX16_isMended 28 = .ok (.aload_n 0, 1) := by decide +kernel
theorem dX16_isMended_29 : decode cX16_isMended 29 = .ok (.getfield 274, 3) := by decide +kernel
theorem dX16_isMended_32 : decode cX16_isMended 32 = .ok (.getfield 235, 3) := by decide +kernel
theorem dX16_isMended_35 : decode cX16_isMended 35 = .ok (.iload 4, 2) := by decide +kernel
theorem dX16_isMended_37 : decode cX16_isMended 37 = .ok (.iaload, 1) := by decide +kernel
theorem dX16_isMended_38 : decode cX16_isMended 38 = .ok (.iconst 1, 1) := by decide +kernel
theorem dX16_isMended_39 : decode cX16_isMended 39 = .ok (.iadd, 1) := by decide +kernel
theorem dX16_isMended_40 : decode cX16_isMended 40 = .ok (.goto 4, 3) := by decide +kernel
theorem dX16_isMended_43 : decode cX16_isMended 43 = .ok (.iconst 1, 1) := by decide +kernel
theorem dX16_isMended_44 : decode cX16_isMended 44 = .ok (.imul, 1) := by decide +kernel
theorem dX16_isMended_45 : decode cX16_isMended 45 = .ok (.istore_n 3, 1) := by decide +kernel
theorem dX16_isMended_46 : decode cX16_isMended 46 = .ok (.iinc 4 1, 3) := by decide +kernel
theorem dX16_isMended_49 : decode cX16_isMended 49 = .ok (.goto (-44), 3) := by decide +kernel
theorem dX16_isMended_52 : decode cX16_isMended 52 = .ok (.iconst 0, 1) := by decide +kernel
theorem dX16_isMended_53 : decode cX16_isMended 53 = .ok (.istore 4, 2) := by decide +kernel
theorem dX16_isMended_55 : decode cX16_isMended 55 = .ok (.iload 4, 2) := by decide +kernel
theorem dX16_isMended_57 : decode cX16_isMended 57 = .ok (.iload_n 3, 1) := by decide +kernel
theorem dX16_isMended_58 : decode cX16_isMended 58 = .ok (.if_icmp .ge 97, 3) := by decide +kernel
theorem dX16_isMended_61 : decode cX16_isMended 61 = .ok (.iload 4, 2) := by decide +kernel
theorem dX16_isMended_63 : decode cX16_isMended 63 = .ok (.istore 5, 2) := by decide +kernel
theorem dX16_isMended_65 : decode cX16_isMended 65 = .ok (.aload_n 0, 1) := by decide +kernel
theorem dX16_isMended_66 : decode cX16_isMended 66 = .ok (.getfield 274, 3) := by decide +kernel
theorem dX16_isMended_69 : decode cX16_isMended 69 = .ok (.getfield 218, 3) := by decide +kernel
theorem dX16_isMended_72 : decode cX16_isMended 72 = .ok (.iconst 1, 1) := by decide +kernel
theorem dX16_isMended_73 : decode cX16_isMended 73 = .ok (.isub, 1) := by decide +kernel
theorem dX16_isMended_74 : decode cX16_isMended 74 = .ok (.istore 6, 2) := by decide +kernel
theorem dX16_isMended_76 : decode cX16_isMended 76 = .ok (.iload 6, 2) := by decide +kernel
theorem dX16_isMended_78 : decode cX16_isMended 78 = .ok (.ifCond .lt 57, 3) := by decide +kernel
theorem dX16_isMended_81 : decode cX16_isMended 81 = .ok (.iload_n 1, 1) := by decide +kernel
theorem dX16_isMended_82 : decode cX16_isMended 82 = .ok (.iload 6, 2) := by decide +kernel
theorem dX16_isMended_84 : decode cX16_isMended 84 = .ok (.ishr, 1) := by decide +kernel
theorem dX16_isMended_85 : decode cX16_isMended 85 = .ok (.iconst 1, 1) := by decide +kernel
theorem dX16_isMended_86 : decode cX16_isMended 86 = .ok (.iand, 1) := by decide +kernel
theorem dX16_isMended_87 : decode cX16_isMended 87 = .ok (.ifCond .ne 6, 3) := by decide +kernel
theorem dX16_isMended_90 : decode cX16_isMended 90 = .ok (.goto 39, 3) := by decide +kernel
theorem dX16_isMended_93 : decode cX16_isMended 93 = .ok (.aload_n 2, 1) := by decide +kernel
theorem dX16_isMended_94 : decode cX16_isMended 94 = .ok (.iload 6, 2) := by decide +kernel
theorem dX16_isMended_96 : decode cX16_isMended 96 = .ok (.iload 5, 2) := by decide +kernel
theorem dX16_isMended_98 : decode cX16_isMended 98 = .ok (.aload_n 0, 1) := by decide +kernel
theorem dX16_isMended_99 : decode cX16_isMended 99 = .ok (.getfield 274, 3) := by decide +kernel
theorem dX16_isMended_102 : decode cX16_isMended 102 = .ok (.getfield 235, 3) := by decide +kernel
theorem dX16_isMended_105 : decode cX16_isMended 105 = .ok (.iload 6, 2) := by decide +kernel
theorem dX16_isMended_107 : decode cX16_isMended 107 = .ok (.iaload, 1) := by decide +kernel
theorem dX16_isMended_108 : decode cX16_isMended 108 = .ok (.iconst 1, 1) := by decide +kernel
theorem dX16_isMended_109 : decode cX16_isMended 109 = .ok (.iadd, 1) := by decide +kernel
theorem dX16_isMended_110 : decode cX16_isMended 110 = .ok (.irem, 1) := by decide +kernel
theorem dX16_isMended_111 : decode cX16_isMended 111 = .ok (.iastore, 1) := by decide +kernel
theorem dX16_isMended_112 : decode cX16_isMended 112 = .ok (.iload 5, 2) := by decide +kernel
theorem dX16_isMended_114 : decode cX16_isMended 114 = .ok (.aload_n 0, 1) := by decide +kernel
theorem dX16_isMended_115 : decode cX16_isMended 115 = .ok (.getfield 274, 3) := by decide +kernel
theorem dX16_isMended_118 : decode cX16_isMended 118 = .ok (.getfield 235, 3) := by decide +kernel
theorem dX16_isMended_121 : decode cX16_isMended 121 = .ok (.iload 6, 2) := by decide +kernel
theorem dX16_isMended_123 : decode cX16_isMended 123 = .ok (.iaload, 1) := by decide +kernel
theorem dX16_isMended_124 : decode cX16_isMended 124 = .ok (.iconst 1, 1) := by decide +kernel
theorem dX16_isMended_125 : decode cX16_isMended 125 = .ok (.iadd, 1) := by decide +kernel
theorem dX16_isMended_126 : decode cX16_isMended 126 = .ok (.idiv, 1) := by decide +kernel
theorem dX16_isMended_127 : decode cX16_isMended 127 = .ok (.istore 5, 2) := by decide +kernel
theorem dX16_isMended_129 : decode cX16_isMended 129 = .ok (.iinc 6 (-1), 3) := by decide +kernel
theorem dX16_isMended_132 : decode cX16_isMended 132 = .ok (.goto (-56), 3) := by decide +kernel
theorem dX16_isMended_135 : decode cX16_isMended 135 = .ok (.aload_n 0, 1) := by decide +kernel
theorem dX16_isMended_136 : decode cX16_isMended 136 = .ok (.getfield 274, 3) := by decide +kernel
theorem dX16_isMended_139 : decode cX16_isMended 139 = .ok (.aload_n 2, 1) := by decide +kernel
theorem dX16_isMended_140 : decode cX16_isMended 140 = .ok (.invokevirtual 356, 3) := by decide +kernel
theorem dX16_isMended_143 : decode cX16_isMended 143 = .ok (.iconst (-1), 1) := by decide +kernel
theorem dX16_isMended_144 : decode cX16_isMended 144 = .ok (.if_icmp .ne 5, 3) := by decide +kernel
theorem dX16_isMended_147 : decode cX16_isMended 147 = .ok (.iconst 1, 1) := by decide +kernel
theorem dX16_isMended_148 : decode cX16_isMended 148 = .ok (.ireturn, 1) := by decide +kernel
theorem dX16_isMended_149 : decode cX16_isMended 149 = .ok (.iinc 4 1, 3) := by decide +kernel
theorem dX16_isMended_152 : decode cX16_isMended 152 = .ok (.goto (-97), 3) := by decide +kernel
theorem dX16_isMended_155 : decode cX16_isMended 155 = .ok (.iconst 0, 1) := by decide +kernel
theorem dX16_isMended_156 : decode cX16_isMended 156 = .ok (.ireturn, 1) := by decide +kernel
theorem dX16_unlike_0 : decode cX16_unlike 0 = .ok (.iload_n 2, 1) := by decide +kernel
theorem dX16_unlike_1 : decode cX16_unlike 1 = .ok (.iload_n 1, 1) := by decide +kernel
theorem dX16_unlike_2 : decode cX16_unlike 2 = .ok (.if_icmp .eq 15, 3) := by decide +kernel
theorem dX16_unlike_5 : decode cX16_unlike 5 = .ok (.aload_n 0, 1) := by decide +kernel
theorem dX16_unlike_6 : decode cX16_unlike 6 = .ok (.iload_n 2, 1) := by decide +kernel
theorem dX16_unlike_7 : decode cX16_unlike 7 = .ok (.aload_n 0, 1) := by decide +kernel
theorem dX16_unlike_8 : decode cX16_unlike 8 = .ok (.getfield 314, 3) := by decide +kernel
theorem dX16_unlike_11 : decode cX16_unlike 11 = .ok (.invokevirtual 353, 3) := by decide +kernel
theorem dX16_unlike_14 : decode cX16_unlike 14 = .ok (.ifCond .ne 5, 3) := by decide +kernel
theorem dX16_unlike_17 : decode cX16_unlike 17 = .ok (.iconst (-1), 1) := by decide +kernel
theorem dX16_unlike_18 : decode cX16_unlike 18 = .ok (.ireturn, 1) := by decide +kernel
theorem dX16_unlike_19 : decode cX16_unlike 19 = .ok (.aload_n 0, 1) := by decide +kernel
theorem dX16_unlike_20 : decode cX16_unlike 20 = .ok (.iload_n 2, 1) := by decide +kernel
theorem dX16_unlike_21 : decode cX16_unlike 21 = .ok (.aload_n 0, 1) := by decide +kernel
theorem dX16_unlike_22 : decode cX16_unlike 22 = .ok (.getfield 314, 3) := by decide +kernel
theorem dX16_unlike_25 : decode cX16_unlike 25 = .ok (.iconst 0, 1) := by decide +kernel
theorem dX16_unlike_26 : decode cX16_unlike 26 = .ok (.aload_n 0, 1) := by decide +kernel
theorem dX16_unlike_27 : decode cX16_unlike 27 = .ok (.getfield 64, 3) := by decide +kernel
theorem dX16_unlike_30 : decode cX16_unlike 30 = .ok (.invokevirtual 349, 3) := by decide +kernel
theorem dX16_unlike_33 : decode cX16_unlike 33 = .ok (.aload_n 0, 1) := by decide +kernel
theorem dX16_unlike_34 : decode cX16_unlike 34 = .ok (.getfield 274, 3) := by decide +kernel
theorem dX16_unlike_37 : decode cX16_unlike 37 = .ok (.aload_n 0, 1) := by decide +kernel
theorem dX16_unlike_38 : decode cX16_unlike 38 = .ok (.getfield 64, 3) := by decide +kernel
theorem dX16_unlike_41 : decode cX16_unlike 41 = .ok (.invokevirtual 356, 3) := by decide +kernel
theorem dX16_unlike_44 : decode cX16_unlike 44 = .ok (.iconst (-1), 1) := by decide +kernel
theorem dX16_unlike_45 : decode cX16_unlike 45 = .ok (.if_icmp .eq 5, 3) := by decide +kernel
theorem dX16_unlike_48 : decode cX16_unlike 48 = .ok (.iconst (-1), 1) := by decide +kernel
theorem dX16_unlike_49 : decode cX16_unlike 49 = .ok (.ireturn, 1) := by decide +kernel
theorem dX16_unlike_50 : decode cX16_unlike 50 = .ok (.iconst 0, 1) := by decide +kernel
theorem dX16_unlike_51 : decode cX16_unlike 51 = .ok (.istore 5, 2) := by decide +kernel
theorem dX16_unlike_53 : decode cX16_unlike 53 = .ok (.iconst 0, 1) := by decide +kernel
theorem dX16_unlike_54 : decode cX16_unlike 54 = .ok (.istore 6, 2) := by decide +kernel
theorem dX16_unlike_56 : decode cX16_unlike 56 = .ok (.iload 6, 2) := by decide +kernel
theorem dX16_unlike_58 : decode cX16_unlike 58 = .ok (.aload_n 0, 1) := by decide +kernel
theorem dX16_unlike_59 : decode cX16_unlike 59 = .ok (.getfield 274, 3) := by decide +kernel
theorem dX16_unlike_62 : decode cX16_unlike 62 = .ok (.getfield 218, 3) := by decide +kernel
theorem dX16_unlike_65 : decode cX16_unlike 65 = .ok (.if_icmp .ge 111, 3) := by decide +kernel
theorem dX16_unlike_68 : decode cX16_unlike 68 = .ok (.iload 4, 2) := by decide +kernel
theorem dX16_unlike_70 : decode cX16_unlike 70 = .ok (.iload 6, 2) := by decide +kernel
theorem dX16_unlike_72 : decode cX16_unlike 72 = .ok (.ishr, 1) := by decide +kernel
theorem dX16_unlike_73 : decode cX16_unlike 73 = .ok (.iconst 1, 1) := by decide +kernel
theorem dX16_unlike_74 : decode cX16_unlike 74 = .ok (.iand, 1) := by decide +kernel
theorem dX16_unlike_75 : decode cX16_unlike 75 = .ok (.iconst 1, 1) := by decide +kernel
theorem dX16_unlike_76 : decode cX16_unlike 76 = .ok (.if_icmp .ne 16, 3) := by decide +kernel
theorem dX16_unlike_79 : decode cX16_unlike 79 = .ok (.aload_n 0, 1) := by decide +kernel
theorem dX16_unlike_80 : decode cX16_unlike 80 = .ok (.getfield 64, 3) := by decide +kernel
theorem dX16_unlike_83 : decode cX16_unlike 83 = .ok (.iload 6, 2) := by decide +kernel
theorem dX16_unlike_85 : decode cX16_unlike 85 = .ok (.iaload, 1) := by decide +kernel
theorem dX16_unlike_86 : decode cX16_unlike 86 = .ok (.iconst (-1), 1) := by decide +kernel
theorem dX16_unlike_87 : decode cX16_unlike 87 = .ok (.if_icmp .ne 5, 3) := by decide +kernel
theorem dX16_unlike_90 : decode cX16_unlike 90 = .ok (.iconst (-1), 1) := by decide +kernel
theorem dX16_unlike_91 : decode cX16_unlike 91 = .ok (.ireturn, 1) := by decide +kernel
theorem dX16_unlike_92 : decode cX16_unlike 92 = .ok (.iload_n 3, 1) := by decide +kernel
theorem dX16_unlike_93 : decode cX16_unlike 93 = .ok (.iload 6, 2) := by decide +kernel
theorem dX16_unlike_95 : decode cX16_unlike 95 = .ok (.ishr, 1) := by decide +kernel
theorem dX16_unlike_96 : decode cX16_unlike 96 = .ok (.iconst 1, 1) := by decide +kernel
theorem dX16_unlike_97 : decode cX16_unlike 97 = .ok (.iand, 1) := by decide +kernel
theorem dX16_unlike_98 : decode cX16_unlike 98 = .ok (.iconst 1, 1) := by decide +kernel
theorem dX16_unlike_99 : decode cX16_unlike 99 = .ok (.if_icmp .ne 7, 3) := by decide +kernel
theorem dX16_unlike_102 : decode cX16_unlike 102 = .ok (.iconst 1, 1) := by decide +kernel
theorem dX16_unlike_103 : decode cX16_unlike 103 = .ok (.goto 4, 3) := by decide +kernel
theorem dX16_unlike_106 : decode cX16_unlike 106 = .ok (.iconst 0, 1) := by decide +kernel
theorem dX16_unlike_107 : decode cX16_unlike 107 = .ok (.istore 7, 2) := by decide +kernel
theorem dX16_unlike_109 : decode cX16_unlike 109 = .ok (.aload_n 0, 1) := by decide +kernel
theorem dX16_unlike_110 : decode cX16_unlike 110 = .ok (.getfield 61, 3) := by decide +kernel
theorem dX16_unlike_113 : decode cX16_unlike 113 = .ok (.iload 6, 2) := by decide +kernel
theorem dX16_unlike_115 : decode cX16_unlike 115 = .ok (.iload 7, 2) := by decide +kernel
theorem dX16_unlike_117 : decode cX16_unlike 117 = .ok (.ifCond .eq 13, 3) := by decide +kernel
theorem dX16_unlike_120 : decode cX16_unlike 120 = .ok (.aload_n 0, 1) := by decide +kernel
theorem dX16_unlike_121 : decode cX16_unlike 121 = .ok (.getfield 64, 3) := by decide +kernel
theorem dX16_unlike_124 : decode cX16_unlike 124 = .ok (.iload 6, 2) := by decide +kernel
theorem dX16_unlike_126 : decode cX16_unlike 126 = .ok (.iaload, 1) := by decide +kernel
theorem dX16_unlike_127 : decode cX16_unlike 127 = .ok (.goto 10, 3) := by decide +kernel
theorem dX16_unlike_130 : decode cX16_unlike 130 = .ok (.aload_n 0, 1) := by decide +kernel
theorem dX16_unlike_131 : decode cX16_unlike 131 = .ok (.getfield 58, 3) := by decide +kernel
theorem dX16_unlike_134 : decode cX16_unlike 134 = .ok (.iload 6, 2) := by decide +kernel
theorem dX16_unlike_136 : decode cX16_unlike 136 = .ok (.iaload, 1) := by decide +kernel
theorem dX16_unlike_137 : decode cX16_unlike 137 = .ok (.iastore, 1) := by decide +kernel
theorem dX16_unlike_138 : decode cX16_unlike 138 = .ok (.iload 5, 2) := by decide +kernel
theorem dX16_unlike_140 : decode cX16_unlike 140 = .ok (.iload 7, 2) := by decide +kernel
theorem dX16_unlike_142 : decode cX16_unlike 142 = .ok (.ifCond .ne 24, 3) := by decide +kernel
theorem dX16_unlike_145 : decode cX16_unlike 145 = .ok (.aload_n 0, 1) := by decide +kernel
theorem dX16_unlike_146 : decode cX16_unlike 146 = .ok (.getfield 64, 3) := by decide +kernel
theorem dX16_unlike_149 : decode cX16_unlike 149 = .ok (.iload 6, 2) := by decide +kernel
theorem dX16_unlike_151 : decode cX16_unlike 151 = .ok (.iaload, 1) := by decide +kernel
theorem dX16_unlike_152 : decode cX16_unlike 152 = .ok (.aload_n 0, 1) := by decide +kernel
theorem dX16_unlike_153 : decode cX16_unlike 153 = .ok (.getfield 58, 3) := by decide +kernel
theorem dX16_unlike_156 : decode cX16_unlike 156 = .ok (.iload 6, 2) := by decide +kernel
theorem dX16_unlike_158 : decode cX16_unlike 158 = .ok (.iaload, 1) := by decide +kernel
theorem dX16_unlike_159 : decode cX16_unlike 159 = .ok (.if_icmp .eq 7, 3) := by decide +kernel
theorem dX16_unlike_162 : decode cX16_unlike 162 = .ok (.iconst 1, 1) := by decide +kernel
theorem dX16_unlike_163 : decode cX16_unlike 163 = .ok (.goto 4, 3) := by decide +kernel
theorem dX16_unlike_166 : decode cX16_unlike 166 = .ok (.iconst 0, 1) := by decide +kernel
theorem dX16_unlike_167 : decode cX16_unlike 167 = .ok (.iadd, 1) := by decide +kernel
theorem dX16_unlike_168 : decode cX16_unlike 168 = .ok (.istore 5, 2) := by decide +kernel
theorem dX16_unlike_170 : decode cX16_unlike 170 = .ok (.iinc 6 1, 3) := by decide +kernel
theorem dX16_unlike_173 : decode cX16_unlike 173 = .ok (.goto (-117), 3) := by decide +kernel
theorem dX16_unlike_176 : decode cX16_unlike 176 = .ok (.aload_n 0, 1) := by decide +kernel
theorem dX16_unlike_177 : decode cX16_unlike 177 = .ok (.getfield 274, 3) := by decide +kernel
theorem dX16_unlike_180 : decode cX16_unlike 180 = .ok (.aload_n 0, 1) := by decide +kernel
theorem dX16_unlike_181 : decode cX16_unlike 181 = .ok (.getfield 61, 3) := by decide +kernel
theorem dX16_unlike_184 : decode cX16_unlike 184 = .ok (.invokevirtual 356, 3) := by decide +kernel
theorem dX16_unlike_187 : decode cX16_unlike 187 = .ok (.iconst (-1), 1) := by decide +kernel
theorem dX16_unlike_188 : decode cX16_unlike 188 = .ok (.if_icmp .ne 8, 3) := by decide +kernel
theorem dX16_unlike_191 : decode cX16_unlike 191 = .ok (.iload 5, 2) := by decide +kernel
theorem dX16_unlike_193 : decode cX16_unlike 193 = .ok (.goto 4, 3) := by decide +kernel
theorem dX16_unlike_196 : decode cX16_unlike 196 = .ok (.iconst (-1), 1) := by decide +kernel
theorem dX16_unlike_197 : decode cX16_unlike 197 = .ok (.ireturn, 1) := by decide +kernel
theorem dX16_mend_0 : decode cX16_mend 0 = .ok (.aload_n 0, 1) := by decide +kernel
theorem dX16_mend_1 : decode cX16_mend 1 = .ok (.iconst 0, 1) := by decide +kernel
theorem dX16_mend_2 : decode cX16_mend 2 = .ok (.putfield 109, 3) := by decide +kernel
theorem dX16_mend_5 : decode cX16_mend 5 = .ok (.aload_n 0, 1) := by decide +kernel
theorem dX16_mend_6 : decode cX16_mend 6 = .ok (.iload_n 1, 1) := by decide +kernel
theorem dX16_mend_7 : decode cX16_mend 7 = .ok (.invokevirtual 336, 3) := by decide +kernel
theorem dX16_mend_10 : decode cX16_mend 10 = .ok (.ifCond .ne 9, 3) := by decide +kernel
theorem dX16_mend_13 : decode cX16_mend 13 = .ok (.aload_n 0, 1) := by decide +kernel
theorem dX16_mend_14 : decode cX16_mend 14 = .ok (.iconst 1, 1) := by decide +kernel
theorem dX16_mend_15 : decode cX16_mend 15 = .ok (.invokevirtual 293, 3) := by decide +kernel
theorem dX16_mend_18 : decode cX16_mend 18 = .ok (.ireturn, 1) := by decide +kernel
theorem dX16_mend_19 : decode cX16_mend 19 = .ok (.aload_n 0, 1) := by decide +kernel
theorem dX16_mend_20 : decode cX16_mend 20 = .ok (.iload_n 1, 1) := by decide +kernel
theorem dX16_mend_21 : decode cX16_mend 21 = .ok (.aload_n 0, 1) := by decide +kernel
theorem dX16_mend_22 : decode cX16_mend 22 = .ok (.getfield 314, 3) := by decide +kernel
theorem dX16_mend_25 : decode cX16_mend 25 = .ok (.iconst 0, 1) := by decide +kernel
theorem dX16_mend_26 : decode cX16_mend 26 = .ok (.aload_n 0, 1) := by decide +kernel
theorem dX16_mend_27 : decode cX16_mend 27 = .ok (.getfield 58, 3) := by decide +kernel
theorem dX16_mend_30 : decode cX16_mend 30 = .ok (.invokevirtual 349, 3) := by decide +kernel
theorem dX16_mend_33 : decode cX16_mend 33 = .ok (.aload_n 0, 1) := by decide +kernel
theorem dX16_mend_34 : decode cX16_mend 34 = .ok (.getfield 274, 3) := by decide +kernel
theorem dX16_mend_37 : decode cX16_mend 37 = .ok (.aload_n 0, 1) := by decide +kernel
theorem dX16_mend_38 : decode cX16_mend 38 = .ok (.getfield 58, 3) := by decide +kernel
theorem dX16_mend_41 : decode cX16_mend 41 = .ok (.invokevirtual 356, 3) := by decide +kernel
theorem dX16_mend_44 : decode cX16_mend 44 = .ok (.iconst (-1), 1) := by decide +kernel
theorem dX16_mend_45 : decode cX16_mend 45 = .ok (.if_icmp .eq 23, 3) := by decide +kernel
theorem dX16_mend_48 : decode cX16_mend 48 = .ok (.aload_n 0, 1) := by decide +kernel
theorem dX16_mend_49 : decode cX16_mend 49 = .ok (.getfield 43, 3) := by decide +kernel
theorem dX16_mend_52 : decode cX16_mend 52 = .ok (.iload_n 1, 1) := by decide +kernel
theorem dX16_mend_53 : decode cX16_mend 53 = .ok (.iaload, 1) := by decide +kernel
theorem dX16_mend_54 : decode cX16_mend 54 = .ok (.iconst (-1), 1) := by decide +kernel
theorem dX16_mend_55 : decode cX16_mend 55 = .ok (.if_icmp .ne 13, 3) := by decide +kernel
theorem dX16_mend_58 : decode cX16_mend 58 = .ok (.aload_n 0, 1) := by decide +kernel
theorem dX16_mend_59 : decode cX16_mend 59 = .ok (.getfield 46, 3) := by decide +kernel
theorem dX16_mend_62 : decode cX16_mend 62 = .ok (.iload_n 1, 1) := by decide +kernel
theorem dX16_mend_63 : decode cX16_mend 63 = .ok (.iaload, 1) := by decide +kernel
theorem dX16_mend_64 : decode cX16_mend 64 = .ok (.iconst (-1), 1) := by decide +kernel
theorem dX16_mend_65 : decode cX16_mend 65 = .ok (.if_icmp .eq 9, 3) := by decide +kernel
theorem dX16_mend_68 : decode cX16_mend 68 = .ok (.aload_n 0, 1) := by decide +kernel
theorem dX16_mend_69 : decode cX16_mend 69 = .ok (.iconst 5, 1) := by decide +kernel
theorem dX16_mend_70 : decode cX16_mend 70 = .ok (.invokevirtual 293, 3) := by decide +kernel
theorem dX16_mend_73 : decode cX16_mend 73 = .ok (.ireturn, 1) := by decide +kernel
theorem dX16_mend_74 : decode cX16_mend 74 = .ok (.iconst 0, 1) := by decide +kernel
theorem dX16_mend_75 : decode cX16_mend 75 = .ok (.istore_n 2, 1) := by decide +kernel
theorem dX16_mend_76 : decode cX16_mend 76 = .ok (.iconst 1, 1) := by decide +kernel
theorem dX16_mend_77 : decode cX16_mend 77 = .ok (.istore_n 3, 1) := by decide +kernel
theorem dX16_mend_78 : decode cX16_mend 78 = .ok (.iload_n 3, 1) := by decide +kernel
theorem dX16_mend_79 : decode cX16_mend 79 = .ok (.iconst 1, 1) := by decide +kernel
theorem dX16_mend_80 : decode cX16_mend 80 = .ok (.aload_n 0, 1) := by decide +kernel
theorem dX16_mend_81 : decode cX16_mend 81 = .ok (.getfield 274, 3) := by decide +kernel
theorem dX16_mend_84 : decode cX16_mend 84 = .ok (.getfield 218, 3) := by decide +kernel
theorem dX16_mend_87 : decode cX16_mend 87 = .ok (.ishl, 1) := by decide +kernel
theorem dX16_mend_88 : decode cX16_mend 88 = .ok (.if_icmp .ge 137, 3) := by decide +kernel
theorem dX16_mend_91 : decode cX16_mend 91 = .ok (.iload_n 3, 1) := by decide +kernel
theorem dX16_mend_92 : decode cX16_mend 92 = .ok (.iload_n 2, 1) := by decide +kernel
theorem dX16_mend_93 : decode cX16_mend 93 = .ok (.ixor, 1) := by decide +kernel
theorem dX16_mend_94 : decode cX16_mend 94 = .ok (.istore 4, 2) := by decide +kernel
theorem dX16_mend_96 : decode cX16_mend 96 = .ok (.aload_n 0, 1) := by decide +kernel
theorem dX16_mend_97 : decode cX16_mend 97 = .ok (.iload_n 3, 1) := by decide +kernel
theorem dX16_mend_98 : decode cX16_mend 98 = .ok (.invokevirtual 366, 3) := by decide +kernel
theorem dX16_mend_101 : decode cX16_mend 101 = .ok (.aload_n 0, 1) := by decide +kernel
theorem dX16_mend_102 : decode cX16_mend 102 = .ok (.iload_n 2, 1) := by decide +kernel
theorem dX16_mend_103 : decode cX16_mend 103 = .ok (.invokevirtual 366, 3) := by decide +kernel
theorem dX16_mend_106 : decode cX16_mend 106 = .ok (.isub, 1) := by decide +kernel
theorem dX16_mend_107 : decode cX16_mend 107 = .ok (.istore 5, 2) := by decide +kernel
theorem dX16_mend_109 : decode cX16_mend 109 = .ok (.iload_n 3, 1) := by decide +kernel
theorem dX16_mend_110 : decode cX16_mend 110 = .ok (.invokestatic 369, 3) := by decide +kernel
theorem dX16_mend_113 : decode cX16_mend 113 = .ok (.iload_n 2, 1) := by decide +kernel
theorem dX16_mend_114 : decode cX16_mend 114 = .ok (.invokestatic 369, 3) := by decide +kernel
theorem dX16_mend_117 : decode cX16_mend 117 = .ok (.isub, 1) := by decide +kernel
theorem dX16_mend_118 : decode cX16_mend 118 = .ok (.istore 6, 2) := by decide +kernel
theorem dX16_mend_120 : decode cX16_mend 120 = .ok (.iload_n 2, 1) := by decide +kernel
theorem dX16_mend_121 : decode cX16_mend 121 = .ok (.ifCond .eq 34, 3) := by decide +kernel
theorem dX16_mend_124 : decode cX16_mend 124 = .ok (.iload 5, 2) := by decide +kernel
theorem dX16_mend_126 : decode cX16_mend 126 = .ok (.ifCond .lt 29, 3) := by decide +kernel
theorem dX16_mend_129 : decode cX16_mend 129 = .ok (.iload 5, 2) := by decide +kernel
theorem dX16_mend_131 : decode cX16_mend 131 = .ok (.ifCond .ne 28, 3) := by decide +kernel
theorem dX16_mend_134 : decode cX16_mend 134 = .ok (.iload 6, 2) := by decide +kernel
theorem dX16_mend_136 : decode cX16_mend 136 = .ok (.ifCond .lt 19, 3) := by decide +kernel
theorem dX16_mend_139 : decode cX16_mend 139 = .ok (.iload 6, 2) := by decide +kernel
theorem dX16_mend_141 : decode cX16_mend 141 = .ok (.ifCond .ne 18, 3) := by decide +kernel
theorem dX16_mend_144 : decode cX16_mend 144 = .ok (.iload_n 3, 1) := by decide +kernel
theorem dX16_mend_145 : decode cX16_mend 145 = .ok (.iload 4, 2) := by decide +kernel
theorem dX16_mend_147 : decode cX16_mend 147 = .ok (.iand, 1) := by decide +kernel
theorem dX16_mend_148 : decode cX16_mend 148 = .ok (.iload 4, 2) := by decide +kernel
theorem dX16_mend_150 : decode cX16_mend 150 = .ok (.ineg, 1) := by decide +kernel
theorem dX16_mend_151 : decode cX16_mend 151 = .ok (.iand, 1) := by decide +kernel
theorem dX16_mend_152 : decode cX16_mend 152 = .ok (.ifCond .eq 7, 3) := by decide +kernel
theorem dX16_mend_155 : decode cX16_mend 155 = .ok (.iconst 1, 1) := by decide +kernel
theorem dX16_mend_156 : decode cX16_mend 156 = .ok (.goto 4, 3) := by decide +kernel
theorem dX16_mend_159 : decode cX16_mend 159 = .ok (.iconst 0, 1) := by decide +kernel
theorem dX16_mend_160 : decode cX16_mend 160 = .ok (.istore 7, 2) := by decide +kernel
theorem dX16_mend_162 : decode cX16_mend 162 = .ok (.iload 7, 2) := by decide +kernel
theorem dX16_mend_164 : decode cX16_mend 164 = .ok (.ifCond .ne 6, 3) := by decide +kernel
theorem dX16_mend_167 : decode cX16_mend 167 = .ok (.goto 52, 3) := by decide +kernel
theorem dX16_mend_170 : decode cX16_mend 170 = .ok (.iconst 0, 1) := by decide +kernel
theorem dX16_mend_171 : decode cX16_mend 171 = .ok (.istore 8, 2) := by decide +kernel
theorem dX16_mend_173 : decode cX16_mend 173 = .ok (.iload 8, 2) := by decide +kernel
theorem dX16_mend_175 : decode cX16_mend 175 = .ok (.aload_n 0, 1) := by decide +kernel
theorem dX16_mend_176 : decode cX16_mend 176 = .ok (.getfield 274, 3) := by decide +kernel
theorem dX16_mend_179 : decode cX16_mend 179 = .ok (.getfield 218, 3) := by decide +kernel

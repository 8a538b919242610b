theorem dX16_mend_182 : decode cX16_mend 182 = .ok (.if_icmp .ge 23, 3) := by decide +kernel
theorem dX16_mend_185 : decode cX16_mend 185 = .ok (.aload_n 0, 1) := by decide +kernel
theorem dX16_mend_186 : decode cX16_mend 186 = .ok (.getfield 61, 3) := by decide +kernel
theorem dX16_mend_189 : decode cX16_mend 189 = .ok (.iload 8, 2) := by decide +kernel
theorem dX16_mend_191 : decode cX16_mend 191 = .ok (.aload_n 0, 1) := by decide +kernel
theorem dX16_mend_192 : decode cX16_mend 192 = .ok (.getfield 58, 3) := by decide +kernel
theorem dX16_mend_195 : decode cX16_mend 195 = .ok (.iload 8, 2) := by decide +kernel
theorem dX16_mend_197 : decode cX16_mend 197 = .ok (.iaload, 1) := by decide +kernel
theorem dX16_mend_198 : decode cX16_mend 198 = .ok (.iastore, 1) := by decide +kernel
theorem dX16_mend_199 : decode cX16_mend 199 = .ok (.iinc 8 1, 3) := by decide +kernel
theorem dX16_mend_202 : decode cX16_mend 202 = .ok (.goto (-29), 3) := by decide +kernel
theorem dX16_mend_205 : decode cX16_mend 205 = .ok (.aload_n 0, 1) := by decide +kernel
theorem dX16_mend_206 : decode cX16_mend 206 = .ok (.iload_n 3, 1) := by decide +kernel
theorem dX16_mend_207 : decode cX16_mend 207 = .ok (.aload_n 0, 1) := by decide +kernel
theorem dX16_mend_208 : decode cX16_mend 208 = .ok (.getfield 61, 3) := by decide +kernel
theorem dX16_mend_211 : decode cX16_mend 211 = .ok (.invokevirtual 372, 3) := by decide +kernel
theorem dX16_mend_214 : decode cX16_mend 214 = .ok (.ifCond .eq 5, 3) := by decide +kernel
theorem dX16_mend_217 : decode cX16_mend 217 = .ok (.iload_n 3, 1) := by decide +kernel
theorem dX16_mend_218 : decode cX16_mend 218 = .ok (.istore_n 2, 1) := by decide +kernel
theorem dX16_mend_219 : decode cX16_mend 219 = .ok (.iinc 3 1, 3) := by decide +kernel
theorem dX16_mend_222 : decode cX16_mend 222 = .ok (.goto (-144), 3) := by decide +kernel
theorem dX16_mend_225 : decode cX16_mend 225 = .ok (.iload_n 2, 1) := by decide +kernel
theorem dX16_mend_226 : decode cX16_mend 226 = .ok (.ifCond .ne 10, 3) := by decide +kernel
theorem dX16_mend_229 : decode cX16_mend 229 = .ok (.aload_n 0, 1) := by decide +kernel
theorem dX16_mend_230 : decode cX16_mend 230 = .ok (.bipush 6, 2) := by decide +kernel
theorem dX16_mend_232 : decode cX16_mend 232 = .ok (.invokevirtual 293, 3) := by decide +kernel
theorem dX16_mend_235 : decode cX16_mend 235 = .ok (.ireturn, 1) := by decide +kernel
theorem dX16_mend_236 : decode cX16_mend 236 = .ok (.bipush (-2), 2) := by decide +kernel
theorem dX16_mend_238 : decode cX16_mend 238 = .ok (.istore_n 3, 1) := by decide +kernel
theorem dX16_mend_239 : decode cX16_mend 239 = .ok (.iconst 0, 1) := by decide +kernel
theorem dX16_mend_240 : decode cX16_mend 240 = .ok (.istore 4, 2) := by decide +kernel
theorem dX16_mend_242 : decode cX16_mend 242 = .ok (.iconst 0, 1) := by decide +kernel
theorem dX16_mend_243 : decode cX16_mend 243 = .ok (.istore 5, 2) := by decide +kernel
theorem dX16_mend_245 : decode cX16_mend 245 = .ok (.iload 5, 2) := by decide +kernel
theorem dX16_mend_247 : decode cX16_mend 247 = .ok (.aload_n 0, 1) := by decide +kernel
theorem dX16_mend_248 : decode cX16_mend 248 = .ok (.getfield 308, 3) := by decide +kernel
theorem dX16_mend_251 : decode cX16_mend 251 = .ok (.if_icmp .ge 47, 3) := by decide +kernel
theorem dX16_mend_254 : decode cX16_mend 254 = .ok (.aload_n 0, 1) := by decide +kernel
theorem dX16_mend_255 : decode cX16_mend 255 = .ok (.iload_n 1, 1) := by decide +kernel
theorem dX16_mend_256 : decode cX16_mend 256 = .ok (.iload 5, 2) := by decide +kernel
theorem dX16_mend_258 : decode cX16_mend 258 = .ok (.iload_n 2, 1) := by decide +kernel
theorem dX16_mend_259 : decode cX16_mend 259 = .ok (.iload_n 2, 1) := by decide +kernel
theorem dX16_mend_260 : decode cX16_mend 260 = .ok (.invokevirtual 376, 3) := by decide +kernel
theorem dX16_mend_263 : decode cX16_mend 263 = .ok (.istore 6, 2) := by decide +kernel
theorem dX16_mend_265 : decode cX16_mend 265 = .ok (.iload 6, 2) := by decide +kernel
theorem dX16_mend_267 : decode cX16_mend 267 = .ok (.iconst (-1), 1) := by decide +kernel
theorem dX16_mend_268 : decode cX16_mend 268 = .ok (.if_icmp .eq 24, 3) := by decide +kernel
theorem dX16_mend_271 : decode cX16_mend 271 = .ok (.iload_n 3, 1) := by decide +kernel
theorem dX16_mend_272 : decode cX16_mend 272 = .ok (.ifCond .lt 13, 3) := by decide +kernel
theorem dX16_mend_275 : decode cX16_mend 275 = .ok (.iload 6, 2) := by decide +kernel
theorem dX16_mend_277 : decode cX16_mend 277 = .ok (.iload 4, 2) := by decide +kernel
theorem dX16_mend_279 : decode cX16_mend 279 = .ok (.if_icmp .lt 6, 3) := by decide +kernel
theorem dX16_mend_282 : decode cX16_mend 282 = .ok (.goto 10, 3) := by decide +kernel
theorem dX16_mend_285 : decode cX16_mend 285 = .ok (.iload 5, 2) := by decide +kernel
theorem dX16_mend_287 : decode cX16_mend 287 = .ok (.istore_n 3, 1) := by decide +kernel
theorem dX16_mend_288 : decode cX16_mend 288 = .ok (.iload 6, 2) := by decide +kernel
theorem dX16_mend_290 : decode cX16_mend 290 = .ok (.istore 4, 2) := by decide +kernel
theorem dX16_mend_292 : decode cX16_mend 292 = .ok (.iinc 5 1, 3) := by decide +kernel
theorem dX16_mend_295 : decode cX16_mend 295 = .ok (.goto (-50), 3) := by decide +kernel
theorem dX16_mend_298 : decode cX16_mend 298 = .ok (.iconst 0, 1) := by decide +kernel
theorem dX16_mend_299 : decode cX16_mend 299 = .ok (.istore 5, 2) := by decide +kernel
theorem dX16_mend_301 : decode cX16_mend 301 = .ok (.iload 5, 2) := by decide +kernel
theorem dX16_mend_303 : decode cX16_mend 303 = .ok (.aload_n 0, 1) := by decide +kernel
theorem dX16_mend_304 : decode cX16_mend 304 = .ok (.getfield 274, 3) := by decide +kernel
theorem dX16_mend_307 : decode cX16_mend 307 = .ok (.getfield 218, 3) := by decide +kernel
theorem dX16_mend_310 : decode cX16_mend 310 = .ok (.if_icmp .ge 23, 3) := by decide +kernel
theorem dX16_mend_313 : decode cX16_mend 313 = .ok (.aload_n 0, 1) := by decide +kernel
theorem dX16_mend_314 : decode cX16_mend 314 = .ok (.getfield 61, 3) := by decide +kernel
theorem dX16_mend_317 : decode cX16_mend 317 = .ok (.iload 5, 2) := by decide +kernel
theorem dX16_mend_319 : decode cX16_mend 319 = .ok (.aload_n 0, 1) := by decide +kernel
theorem dX16_mend_320 : decode cX16_mend 320 = .ok (.getfield 58, 3) := by decide +kernel
theorem dX16_mend_323 : decode cX16_mend 323 = .ok (.iload 5, 2) := by decide +kernel
theorem dX16_mend_325 : decode cX16_mend 325 = .ok (.iaload, 1) := by decide +kernel
theorem dX16_mend_326 : decode cX16_mend 326 = .ok (.iastore, 1) := by decide +kernel
theorem dX16_mend_327 : decode cX16_mend 327 = .ok (.iinc 5 1, 3) := by decide +kernel
theorem dX16_mend_330 : decode cX16_mend 330 = .ok (.goto (-29), 3) := by decide +kernel
theorem dX16_mend_333 : decode cX16_mend 333 = .ok (.aload_n 0, 1) := by decide +kernel
theorem dX16_mend_334 : decode cX16_mend 334 = .ok (.iload_n 2, 1) := by decide +kernel
theorem dX16_mend_335 : decode cX16_mend 335 = .ok (.aload_n 0, 1) := by decide +kernel
theorem dX16_mend_336 : decode cX16_mend 336 = .ok (.getfield 61, 3) := by decide +kernel
theorem dX16_mend_339 : decode cX16_mend 339 = .ok (.invokevirtual 372, 3) := by decide +kernel
theorem dX16_mend_342 : decode cX16_mend 342 = .ok (.istore 5, 2) := by decide +kernel
theorem dX16_mend_344 : decode cX16_mend 344 = .ok (.iconst 0, 1) := by decide +kernel
theorem dX16_mend_345 : decode cX16_mend 345 = .ok (.istore 6, 2) := by decide +kernel
theorem dX16_mend_347 : decode cX16_mend 347 = .ok (.iload 6, 2) := by decide +kernel
theorem dX16_mend_349 : decode cX16_mend 349 = .ok (.aload_n 0, 1) := by decide +kernel
theorem dX16_mend_350 : decode cX16_mend 350 = .ok (.getfield 274, 3) := by decide +kernel
theorem dX16_mend_353 : decode cX16_mend 353 = .ok (.getfield 218, 3) := by decide +kernel
theorem dX16_mend_356 : decode cX16_mend 356 = .ok (.if_icmp .ge 47, 3) := by decide +kernel
theorem dX16_mend_359 : decode cX16_mend 359 = .ok (.aload_n 0, 1) := by decide +kernel
theorem dX16_mend_360 : decode cX16_mend 360 = .ok (.getfield 34, 3) := by decide +kernel
theorem dX16_mend_363 : decode cX16_mend 363 = .ok (.bipush 6, 2) := by decide +kernel
theorem dX16_mend_365 : decode cX16_mend 365 = .ok (.iload_n 1, 1) := by decide +kernel
theorem dX16_mend_366 : decode cX16_mend 366 = .ok (.imul, 1) := by decide +kernel
theorem dX16_mend_367 : decode cX16_mend 367 = .ok (.iload 6, 2) := by decide +kernel
theorem dX16_mend_369 : decode cX16_mend 369 = .ok (.iadd, 1) := by decide +kernel
theorem dX16_mend_370 : decode cX16_mend 370 = .ok (.iload_n 3, 1) := by decide +kernel
theorem dX16_mend_371 : decode cX16_mend 371 = .ok (.ifCond .ge 13, 3) := by decide +kernel
theorem dX16_mend_374 : decode cX16_mend 374 = .ok (.aload_n 0, 1) := by decide +kernel
theorem dX16_mend_375 : decode cX16_mend 375 = .ok (.getfield 61, 3) := by decide +kernel
theorem dX16_mend_378 : decode cX16_mend 378 = .ok (.iload 6, 2) := by decide +kernel
theorem dX16_mend_380 : decode cX16_mend 380 = .ok (.iaload, 1) := by decide +kernel
theorem dX16_mend_381 : decode cX16_mend 381 = .ok (.goto 15, 3) := by decide +kernel
theorem dX16_mend_384 : decode cX16_mend 384 = .ok (.aload_n 0, 1) := by decide +kernel
theorem dX16_mend_385 : decode cX16_mend 385 = .ok (.iload_n 3, 1) := by decide +kernel
theorem dX16_mend_386 : decode cX16_mend 386 = .ok (.iload 6, 2) := by decide +kernel
theorem dX16_mend_388 : decode cX16_mend 388 = .ok (.aload_n 0, 1) := by decide +kernel
theorem dX16_mend_389 : decode cX16_mend 389 = .ok (.getfield 314, 3) := by decide +kernel
theorem dX16_mend_392 : decode cX16_mend 392 = .ok (.iconst 0, 1) := by decide +kernel
theorem dX16_mend_393 : decode cX16_mend 393 = .ok (.invokevirtual 345, 3) := by decide +kernel
theorem dX16_mend_396 : decode cX16_mend 396 = .ok (.iastore, 1) := by decide +kernel
theorem dX16_mend_397 : decode cX16_mend 397 = .ok (.iinc 6 1, 3) := by decide +kernel
theorem dX16_mend_400 : decode cX16_mend 400 = .ok (.goto (-53), 3) := by decide +kernel
theorem dX16_mend_403 : decode cX16_mend 403 = .ok (.aload_n 0, 1) := by decide +kernel
theorem dX16_mend_404 : decode cX16_mend 404 = .ok (.getfield 49, 3) := by decide +kernel
theorem dX16_mend_407 : decode cX16_mend 407 = .ok (.iload_n 1, 1) := by decide +kernel
theorem dX16_mend_408 : decode cX16_mend 408 = .ok (.iload_n 2, 1) := by decide +kernel
theorem dX16_mend_409 : decode cX16_mend 409 = .ok (.iastore, 1) := by decide +kernel
theorem dX16_mend_410 : decode cX16_mend 410 = .ok (.aload_n 0, 1) := by decide +kernel
theorem dX16_mend_411 : decode cX16_mend 411 = .ok (.getfield 46, 3) := by decide +kernel
theorem dX16_mend_414 : decode cX16_mend 414 = .ok (.iload_n 1, 1) := by decide +kernel
theorem dX16_mend_415 : decode cX16_mend 415 = .ok (.aload_n 0, 1) := by decide +kernel
theorem dX16_mend_416 : decode cX16_mend 416 = .ok (.getfield 314, 3) := by decide +kernel
theorem dX16_mend_419 : decode cX16_mend 419 = .ok (.iastore, 1) := by decide +kernel
theorem dX16_mend_420 : decode cX16_mend 420 = .ok (.aload_n 0, 1) := by decide +kernel
theorem dX16_mend_421 : decode cX16_mend 421 = .ok (.iload_n 3, 1) := by decide +kernel
theorem dX16_mend_422 : decode cX16_mend 422 = .ok (.putfield 67, 3) := by decide +kernel
theorem dX16_mend_425 : decode cX16_mend 425 = .ok (.aload_n 0, 1) := by decide +kernel
theorem dX16_mend_426 : decode cX16_mend 426 = .ok (.iload_n 2, 1) := by decide +kernel
theorem dX16_mend_427 : decode cX16_mend 427 = .ok (.invokevirtual 323, 3) := by decide +kernel
theorem dX16_mend_430 : decode cX16_mend 430 = .ok (.ireturn, 1) := by decide +kernel
theorem dX16_giver_0 : decode cX16_giver 0 = .ok (.aload_n 0, 1) := by decide +kernel
theorem dX16_giver_1 : decode cX16_giver 1 = .ok (.iconst 0, 1) := by decide +kernel
theorem dX16_giver_2 : decode cX16_giver 2 = .ok (.putfield 109, 3) := by decide +kernel
theorem dX16_giver_5 : decode cX16_giver 5 = .ok (.aload_n 0, 1) := by decide +kernel
theorem dX16_giver_6 : decode cX16_giver 6 = .ok (.getfield 67, 3) := by decide +kernel
theorem dX16_giver_9 : decode cX16_giver 9 = .ok (.ireturn, 1) := by decide +kernel
theorem dX16_fill_0 : decode cX16_fill 0 = .ok (.aload_n 0, 1) := by decide +kernel
theorem dX16_fill_1 : decode cX16_fill 1 = .ok (.iconst 0, 1) := by decide +kernel
theorem dX16_fill_2 : decode cX16_fill 2 = .ok (.putfield 109, 3) := by decide +kernel
theorem dX16_fill_5 : decode cX16_fill 5 = .ok (.aload_n 0, 1) := by decide +kernel
theorem dX16_fill_6 : decode cX16_fill 6 = .ok (.iload_n 1, 1) := by decide +kernel
theorem dX16_fill_7 : decode cX16_fill 7 = .ok (.invokevirtual 336, 3) := by decide +kernel
theorem dX16_fill_10 : decode cX16_fill 10 = .ok (.ifCond .ne 9, 3) := by decide +kernel
theorem dX16_fill_13 : decode cX16_fill 13 = .ok (.aload_n 0, 1) := by decide +kernel
theorem dX16_fill_14 : decode cX16_fill 14 = .ok (.iconst 1, 1) := by decide +kernel
theorem dX16_fill_15 : decode cX16_fill 15 = .ok (.invokevirtual 293, 3) := by decide +kernel
theorem dX16_fill_18 : decode cX16_fill 18 = .ok (.ireturn, 1) := by decide +kernel
theorem dX16_fill_19 : decode cX16_fill 19 = .ok (.iload_n 2, 1) := by decide +kernel
theorem dX16_fill_20 : decode cX16_fill 20 = .ok (.iconst 0, 1) := by decide +kernel
theorem dX16_fill_21 : decode cX16_fill 21 = .ok (.sipush 999, 3) := by decide +kernel
theorem dX16_fill_24 : decode cX16_fill 24 = .ok (.invokestatic 231, 3) := by decide +kernel
theorem dX16_fill_27 : decode cX16_fill 27 = .ok (.ifCond .ne 9, 3) := by decide +kernel
theorem dX16_fill_30 : decode cX16_fill 30 = .ok (.aload_n 0, 1) := by decide +kernel
theorem dX16_fill_31 : decode cX16_fill 31 = .ok (.iconst 2, 1) := by decide +kernel
theorem dX16_fill_32 : decode cX16_fill 32 = .ok (.invokevirtual 293, 3) := by decide +kernel
theorem dX16_fill_35 : decode cX16_fill 35 = .ok (.ireturn, 1) := by decide +kernel
theorem dX16_fill_36 : decode cX16_fill 36 = .ok (.aload_n 0, 1) := by decide +kernel
theorem dX16_fill_37 : decode cX16_fill 37 = .ok (.iload_n 1, 1) := by decide +kernel
theorem dX16_fill_38 : decode cX16_fill 38 = .ok (.aload_n 0, 1) := by decide +kernel
theorem dX16_fill_39 : decode cX16_fill 39 = .ok (.getfield 314, 3) := by decide +kernel
theorem dX16_fill_42 : decode cX16_fill 42 = .ok (.iconst 0, 1) := by decide +kernel
theorem dX16_fill_43 : decode cX16_fill 43 = .ok (.aload_n 0, 1) := by decide +kernel
theorem dX16_fill_44 : decode cX16_fill 44 = .ok (.getfield 58, 3) := by decide +kernel
theorem dX16_fill_47 : decode cX16_fill 47 = .ok (.invokevirtual 349, 3) := by decide +kernel
theorem dX16_fill_50 : decode cX16_fill 50 = .ok (.aload_n 0, 1) := by decide +kernel
theorem dX16_fill_51 : decode cX16_fill 51 = .ok (.aload_n 0, 1) := by decide +kernel
theorem dX16_fill_52 : decode cX16_fill 52 = .ok (.getfield 58, 3) := by decide +kernel
theorem dX16_fill_55 : decode cX16_fill 55 = .ok (.invokevirtual 360, 3) := by decide +kernel
theorem dX16_fill_58 : decode cX16_fill 58 = .ok (.ifCond .eq 38, 3) := by decide +kernel
theorem dX16_fill_61 : decode cX16_fill 61 = .ok (.aload_n 0, 1) := by decide +kernel
theorem dX16_fill_62 : decode cX16_fill 62 = .ok (.getfield 274, 3) := by decide +kernel
theorem dX16_fill_65 : decode cX16_fill 65 = .ok (.aload_n 0, 1) := by decide +kernel
theorem dX16_fill_66 : decode cX16_fill 66 = .ok (.getfield 58, 3) := by decide +kernel
theorem dX16_fill_69 : decode cX16_fill 69 = .ok (.invokevirtual 356, 3) := by decide +kernel
theorem dX16_fill_72 : decode cX16_fill 72 = .ok (.iconst (-1), 1) := by decide +kernel
theorem dX16_fill_73 : decode cX16_fill 73 = .ok (.if_icmp .ne 23, 3) := by decide +kernel
theorem dX16_fill_76 : decode cX16_fill 76 = .ok (.aload_n 0, 1) := by decide +kernel
theorem dX16_fill_77 : decode cX16_fill 77 = .ok (.getfield 43, 3) := by decide +kernel
theorem dX16_fill_80 : decode cX16_fill 80 = .ok (.iload_n 1, 1) := by decide +kernel
theorem dX16_fill_81 : decode cX16_fill 81 = .ok (.iaload, 1) := by decide +kernel
theorem dX16_fill_82 : decode cX16_fill 82 = .ok (.iconst (-1), 1) := by decide +kernel
theorem dX16_fill_83 : decode cX16_fill 83 = .ok (.if_icmp .ne 13, 3) := by decide +kernel
theorem dX16_fill_86 : decode cX16_fill 86 = .ok (.aload_n 0, 1) := by decide +kernel
theorem dX16_fill_87 : decode cX16_fill 87 = .ok (.getfield 52, 3) := by decide +kernel
theorem dX16_fill_90 : decode cX16_fill 90 = .ok (.iload_n 1, 1) := by decide +kernel
theorem dX16_fill_91 : decode cX16_fill 91 = .ok (.iaload, 1) := by decide +kernel
theorem dX16_fill_92 : decode cX16_fill 92 = .ok (.iconst (-1), 1) := by decide +kernel
theorem dX16_fill_93 : decode cX16_fill 93 = .ok (.if_icmp .eq 9, 3) := by decide +kernel
theorem dX16_fill_96 : decode cX16_fill 96 = .ok (.aload_n 0, 1) := by decide +kernel
theorem dX16_fill_97 : decode cX16_fill 97 = .ok (.iconst 5, 1) := by decide +kernel
theorem dX16_fill_98 : decode cX16_fill 98 = .ok (.invokevirtual 293, 3) := by decide +kernel
theorem dX16_fill_101 : decode cX16_fill 101 = .ok (.ireturn, 1) := by decide +kernel
theorem dX16_fill_102 : decode cX16_fill 102 = .ok (.iconst 0, 1) := by decide +kernel
theorem dX16_fill_103 : decode cX16_fill 103 = .ok (.istore_n 3, 1) := by decide +kernel
theorem dX16_fill_104 : decode cX16_fill 104 = .ok (.iconst 0, 1) := by decide +kernel
theorem dX16_fill_105 : decode cX16_fill 105 = .ok (.istore 4, 2) := by decide +kernel
theorem dX16_fill_107 : decode cX16_fill 107 = .ok (.iload 4, 2) := by decide +kernel
theorem dX16_fill_109 : decode cX16_fill 109 = .ok (.aload_n 0, 1) := by decide +kernel
theorem dX16_fill_110 : decode cX16_fill 110 = .ok (.getfield 274, 3) := by decide +kernel
theorem dX16_fill_113 : decode cX16_fill 113 = .ok (.getfield 218, 3) := by decide +kernel
theorem dX16_fill_116 : decode cX16_fill 116 = .ok (.if_icmp .ge 31, 3) := by decide +kernel
theorem dX16_fill_119 : decode cX16_fill 119 = .ok (.iload_n 3, 1) := by decide +kernel
theorem dX16_fill_120 : decode cX16_fill 120 = .ok (.aload_n 0, 1) := by decide +kernel
theorem dX16_fill_121 : decode cX16_fill 121 = .ok (.getfield 58, 3) := by decide +kernel
theorem dX16_fill_124 : decode cX16_fill 124 = .ok (.iload 4, 2) := by decide +kernel
theorem dX16_fill_126 : decode cX16_fill 126 = .ok (.iaload, 1) := by decide +kernel
theorem dX16_fill_127 : decode cX16_fill 127 = .ok (.iconst (-1), 1) := by decide +kernel
theorem dX16_fill_128 : decode cX16_fill 128 = .ok (.if_icmp .ne 10, 3) := by decide +kernel
theorem dX16_fill_131 : decode cX16_fill 131 = .ok (.iconst 1, 1) := by decide +kernel
theorem dX16_fill_132 : decode cX16_fill 132 = .ok (.iload 4, 2) := by decide +kernel
theorem dX16_fill_134 : decode cX16_fill 134 = .ok (.ishl, 1) := by decide +kernel
theorem dX16_fill_135 : decode cX16_fill 135 = .ok (.goto 4, 3) := by decide +kernel
theorem dX16_fill_138 : decode cX16_fill 138 = .ok (.iconst 0, 1) := by decide +kernel
theorem dX16_fill_139 : decode cX16_fill 139 = .ok (.ior, 1) := by decide +kernel
theorem dX16_fill_140 : decode cX16_fill 140 = .ok (.istore_n 3, 1) := by decide +kernel
theorem dX16_fill_141 : decode cX16_fill 141 = .ok (.iinc 4 1, 3) := by decide +kernel
theorem dX16_fill_144 : decode cX16_fill 144 = .ok (.goto (-37), 3) := by decide +kernel
theorem dX16_fill_147 : decode cX16_fill 147 = .ok (.iconst 0, 1) := by decide +kernel
theorem dX16_fill_148 : decode cX16_fill 148 = .ok (.istore 4, 2) := by decide +kernel
theorem dX16_fill_150 : decode cX16_fill 150 = .ok (.iconst 0, 1) := by decide +kernel
theorem dX16_fill_151 : decode cX16_fill 151 = .ok (.istore 5, 2) := by decide +kernel
theorem dX16_fill_153 : decode cX16_fill 153 = .ok (.iconst 0, 1) := by decide +kernel
theorem dX16_fill_154 : decode cX16_fill 154 = .ok (.istore 6, 2) := by decide +kernel
theorem dX16_fill_156 : decode cX16_fill 156 = .ok (.iload 6, 2) := by decide +kernel
theorem dX16_fill_158 : decode cX16_fill 158 = .ok (.aload_n 0, 1) := by decide +kernel
theorem dX16_fill_159 : decode cX16_fill 159 = .ok (.getfield 308, 3) := by decide +kernel
theorem dX16_fill_162 : decode cX16_fill 162 = .ok (.if_icmp .ge 82, 3) := by decide +kernel
theorem dX16_fill_165 : decode cX16_fill 165 = .ok (.aload_n 0, 1) := by decide +kernel
theorem dX16_fill_166 : decode cX16_fill 166 = .ok (.iload_n 1, 1) := by decide +kernel
theorem dX16_fill_167 : decode cX16_fill 167 = .ok (.iload 6, 2) := by decide +kernel
theorem dX16_fill_169 : decode cX16_fill 169 = .ok (.iload_n 3, 1) := by decide +kernel
theorem dX16_fill_170 : decode cX16_fill 170 = .ok (.iconst 1, 1) := by decide +kernel
theorem dX16_fill_171 : decode cX16_fill 171 = .ok (.aload_n 0, 1) := by decide +kernel
theorem dX16_fill_172 : decode cX16_fill 172 = .ok (.getfield 274, 3) := by decide +kernel
theorem dX16_fill_175 : decode cX16_fill 175 = .ok (.getfield 218, 3) := by decide +kernel
theorem dX16_fill_178 : decode cX16_fill 178 = .ok (.ishl, 1) := by decide +kernel
theorem dX16_fill_179 : decode cX16_fill 179 = .ok (.iconst 1, 1) := by decide +kernel
theorem dX16_fill_180 : decode cX16_fill 180 = .ok (.isub, 1) := by decide +kernel
theorem dX16_fill_181 : decode cX16_fill 181 = .ok (.invokevirtual 376, 3) := by decide +kernel
theorem dX16_fill_184 : decode cX16_fill 184 = .ok (.istore 7, 2) := by decide +kernel
theorem dX16_fill_186 : decode cX16_fill 186 = .ok (.iload 7, 2) := by decide +kernel
theorem dX16_fill_188 : decode cX16_fill 188 = .ok (.iconst (-1), 1) := by decide +kernel
theorem dX16_fill_189 : decode cX16_fill 189 = .ok (.if_icmp .eq 49, 3) := by decide +kernel
theorem dX16_fill_192 : decode cX16_fill 192 = .ok (.iload 4, 2) := by decide +kernel
theorem dX16_fill_194 : decode cX16_fill 194 = .ok (.ifCond .le 13, 3) := by decide +kernel
theorem dX16_fill_197 : decode cX16_fill 197 = .ok (.iload 7, 2) := by decide +kernel
theorem dX16_fill_199 : decode cX16_fill 199 = .ok (.iload 5, 2) := by decide +kernel
theorem dX16_fill_201 : decode cX16_fill 201 = .ok (.if_icmp .le 6, 3) := by decide +kernel
theorem dX16_fill_204 : decode cX16_fill 204 = .ok (.goto 34, 3) := by decide +kernel
theorem dX16_fill_207 : decode cX16_fill 207 = .ok (.iload 4, 2) := by decide +kernel
theorem dX16_fill_209 : decode cX16_fill 209 = .ok (.ifCond .eq 10, 3) := by decide +kernel
theorem dX16_fill_212 : decode cX16_fill 212 = .ok (.iload 7, 2) := by decide +kernel
theorem dX16_fill_214 : decode cX16_fill 214 = .ok (.iload 5, 2) := by decide +kernel
theorem dX16_fill_216 : decode cX16_fill 216 = .ok (.if_icmp .ge 6, 3) := by decide +kernel
theorem dX16_fill_219 : decode cX16_fill 219 = .ok (.iconst 0, 1) := by decide +kernel
theorem dX16_fill_220 : decode cX16_fill 220 = .ok (.istore 4, 2) := by decide +kernel
theorem dX16_fill_222 : decode cX16_fill 222 = .ok (.iload 7, 2) := by decide +kernel
theorem dX16_fill_224 : decode cX16_fill 224 = .ok (.istore 5, 2) := by decide +kernel
theorem dX16_fill_226 : decode cX16_fill 226 = .ok (.aload_n 0, 1) := by decide +kernel
theorem dX16_fill_227 : decode cX16_fill 227 = .ok (.getfield 70, 3) := by decide +kernel
theorem dX16_fill_230 : decode cX16_fill 230 = .ok (.iload 4, 2) := by decide +kernel
theorem dX16_fill_232 : decode cX16_fill 232 = .ok (.iload 6, 2) := by decide +kernel
theorem dX16_fill_234 : decode cX16_fill 234 = .ok (.iastore, 1) := by decide +kernel
theorem dX16_fill_235 : decode cX16_fill 235 = .ok (.iinc 4 1, 3) := by decide +kernel
theorem dX16_fill_238 : decode cX16_fill 238 = .ok (.iinc 6 1, 3) := by decide +kernel
theorem dX16_fill_241 : decode cX16_fill 241 = .ok (.goto (-85), 3) := by decide +kernel
theorem dX16_fill_244 : decode cX16_fill 244 = .ok (.iload 4, 2) := by decide +kernel
theorem dX16_fill_246 : decode cX16_fill 246 = .ok (.ifCond .ne 10, 3) := by decide +kernel
theorem dX16_fill_249 : decode cX16_fill 249 = .ok (.aload_n 0, 1) := by decide +kernel
theorem dX16_fill_250 : decode cX16_fill 250 = .ok (.bipush 6, 2) := by decide +kernel
theorem dX16_fill_252 : decode cX16_fill 252 = .ok (.invokevirtual 293, 3) := by decide +kernel
theorem dX16_fill_255 : decode cX16_fill 255 = .ok (.ireturn, 1) := by decide +kernel
theorem dX16_fill_256 : decode cX16_fill 256 = .ok (.iconst 0, 1) := by decide +kernel
theorem dX16_fill_257 : decode cX16_fill 257 = .ok (.istore 6, 2) := by decide +kernel
theorem dX16_fill_259 : decode cX16_fill 259 = .ok (.iload 6, 2) := by decide +kernel
theorem dX16_fill_261 : decode cX16_fill 261 = .ok (.iconst 5, 1) := by decide +kernel
theorem dX16_fill_262 : decode cX16_fill 262 = .ok (.if_icmp .ge 70, 3) := by decide +kernel
theorem dX16_fill_265 : decode cX16_fill 265 = .ok (.iconst 0, 1) := by decide +kernel
theorem dX16_fill_266 : decode cX16_fill 266 = .ok (.istore 7, 2) := by decide +kernel
theorem dX16_fill_268 : decode cX16_fill 268 = .ok (.iload 7, 2) := by decide +kernel
theorem dX16_fill_270 : decode cX16_fill 270 = .ok (.aload_n 0, 1) := by decide +kernel
theorem dX16_fill_271 : decode cX16_fill 271 = .ok (.getfield 274, 3) := by decide +kernel
theorem dX16_fill_274 : decode cX16_fill 274 = .ok (.getfield 218, 3) := by decide +kernel
theorem dX16_fill_277 : decode cX16_fill 277 = .ok (.if_icmp .ge 49, 3) := by decide +kernel
theorem dX16_fill_280 : decode cX16_fill 280 = .ok (.aload_n 0, 1) := by decide +kernel
theorem dX16_fill_281 : decode cX16_fill 281 = .ok (.getfield 37, 3) := by decide +kernel
theorem dX16_fill_284 : decode cX16_fill 284 = .ok (.bipush 6, 2) := by decide +kernel
theorem dX16_fill_286 : decode cX16_fill 286 = .ok (.iconst 5, 1) := by decide +kernel
theorem dX16_fill_287 : decode cX16_fill 287 = .ok (.iload_n 1, 1) := by decide +kernel
theorem dX16_fill_288 : decode cX16_fill 288 = .ok (.imul, 1) := by decide +kernel
theorem dX16_fill_289 : decode cX16_fill 289 = .ok (.iload 6, 2) := by decide +kernel
theorem dX16_fill_291 : decode cX16_fill 291 = .ok (.iadd, 1) := by decide +kernel
theorem dX16_fill_292 : decode cX16_fill 292 = .ok (.imul, 1) := by decide +kernel
theorem dX16_fill_293 : decode cX16_fill 293 = .ok (.iload 7, 2) := by decide +kernel
theorem dX16_fill_295 : decode cX16_fill 295 = .ok (.iadd, 1) := by decide +kernel
theorem dX16_fill_296 : decode cX16_fill 296 = .ok (.aload_n 0, 1) := by decide +kernel
theorem dX16_fill_297 : decode cX16_fill 297 = .ok (.aload_n 0, 1) := by decide +kernel
theorem dX16_fill_298 : decode cX16_fill 298 = .ok (.getfield 70, 3) := by decide +kernel
theorem dX16_fill_301 : decode cX16_fill 301 = .ok (.iload_n 2, 1) := by decide +kernel
theorem dX16_fill_302 : decode cX16_fill 302 = .ok (.iload 6, 2) := by decide +kernel
theorem dX16_fill_304 : decode cX16_fill 304 = .ok (.iadd, 1) := by decide +kernel
theorem dX16_fill_305 : decode cX16_fill 305 = .ok (.iload 4, 2) := by decide +kernel
theorem dX16_fill_307 : decode cX16_fill 307 = .ok (.irem, 1) := by decide +kernel
theorem dX16_fill_308 : decode cX16_fill 308 = .ok (.iaload, 1) := by decide +kernel
theorem dX16_fill_309 : decode cX16_fill 309 = .ok (.iload 7, 2) := by decide +kernel
theorem dX16_fill_311 : decode cX16_fill 311 = .ok (.aload_n 0, 1) := by decide +kernel
theorem dX16_fill_312 : decode cX16_fill 312 = .ok (.getfield 314, 3) := by decide +kernel
theorem dX16_fill_315 : decode cX16_fill 315 = .ok (.iconst 0, 1) := by decide +kernel
theorem dX16_fill_316 : decode cX16_fill 316 = .ok (.invokevirtual 345, 3) := by decide +kernel
theorem dX16_fill_319 : decode cX16_fill 319 = .ok (.iastore, 1) := by decide +kernel
theorem dX16_fill_320 : decode cX16_fill 320 = .ok (.iinc 7 1, 3) := by decide +kernel
theorem dX16_fill_323 : decode cX16_fill 323 = .ok (.goto (-55), 3) := by decide +kernel
theorem dX16_fill_326 : decode cX16_fill 326 = .ok (.iinc 6 1, 3) := by decide +kernel
theorem dX16_fill_329 : decode cX16_fill 329 = .ok (.goto (-70), 3) := by decide +kernel
theorem dX16_fill_332 : decode cX16_fill 332 = .ok (.aload_n 0, 1) := by decide +kernel
theorem dX16_fill_333 : decode cX16_fill 333 = .ok (.getfield 52, 3) := by decide +kernel
theorem dX16_fill_336 : decode cX16_fill 336 = .ok (.iload_n 1, 1) := by decide +kernel
theorem dX16_fill_337 : decode cX16_fill 337 = .ok (.aload_n 0, 1) := by decide +kernel
theorem dX16_fill_338 : decode cX16_fill 338 = .ok (.getfield 314, 3) := by decide +kernel
theorem dX16_fill_341 : decode cX16_fill 341 = .ok (.iastore, 1) := by decide +kernel
theorem dX16_fill_342 : decode cX16_fill 342 = .ok (.aload_n 0, 1) := by decide +kernel
theorem dX16_fill_343 : decode cX16_fill 343 = .ok (.iload 4, 2) := by decide +kernel
theorem dX16_fill_345 : decode cX16_fill 345 = .ok (.invokevirtual 323, 3) := by decide +kernel
theorem dX16_fill_348 : decode cX16_fill 348 = .ok (.ireturn, 1) := by decide +kernel
theorem dX16_pass_0 : decode cX16_pass 0 = .ok (.aload_n 0, 1) := by decide +kernel
theorem dX16_pass_1 : decode cX16_pass 1 = .ok (.iconst 0, 1) := by decide +kernel
theorem dX16_pass_2 : decode cX16_pass 2 = .ok (.putfield 109, 3) := by decide +kernel
theorem dX16_pass_5 : decode cX16_pass 5 = .ok (.aload_n 0, 1) := by decide +kernel
theorem dX16_pass_6 : decode cX16_pass 6 = .ok (.getfield 274, 3) := by decide +kernel
theorem dX16_pass_9 : decode cX16_pass 9 = .ok (.ifnonnull 9, 3) := by decide +kernel
theorem dX16_pass_12 : decode cX16_pass 12 = .ok (.aload_n 0, 1) := by decide +kernel
theorem dX16_pass_13 : decode cX16_pass 13 = .ok (.iconst 1, 1) := by decide +kernel
theorem dX16_pass_14 : decode cX16_pass 14 = .ok (.invokevirtual 293, 3) := by decide +kernel
theorem dX16_pass_17 : decode cX16_pass 17 = .ok (.ireturn, 1) := by decide +kernel
theorem dX16_pass_18 : decode cX16_pass 18 = .ok (.iload_n 1, 1) := by decide +kernel
theorem dX16_pass_19 : decode cX16_pass 19 = .ok (.iconst 1, 1) := by decide +kernel
theorem dX16_pass_20 : decode cX16_pass 20 = .ok (.bipush 100, 2) := by decide +kernel
theorem dX16_pass_22 : decode cX16_pass 22 = .ok (.invokestatic 231, 3) := by decide +kernel
theorem dX16_pass_25 : decode cX16_pass 25 = .ok (.ifCond .eq 15, 3) := by decide +kernel
theorem dX16_pass_28 : decode cX16_pass 28 = .ok (.aload_n 0, 1) := by decide +kernel
theorem dX16_pass_29 : decode cX16_pass 29 = .ok (.getfield 314, 3) := by decide +kernel
theorem dX16_pass_32 : decode cX16_pass 32 = .ok (.iload_n 1, 1) := by decide +kernel
theorem dX16_pass_33 : decode cX16_pass 33 = .ok (.iadd, 1) := by decide +kernel
theorem dX16_pass_34 : decode cX16_pass 34 = .ok (.sipush 999, 3) := by decide +kernel
theorem dX16_pass_37 : decode cX16_pass 37 = .ok (.if_icmp .le 9, 3) := by decide +kernel
theorem dX16_pass_40 : decode cX16_pass 40 = .ok (.aload_n 0, 1) := by decide +kernel
theorem dX16_pass_41 : decode cX16_pass 41 = .ok (.iconst 2, 1) := by decide +kernel
theorem dX16_pass_42 : decode cX16_pass 42 = .ok (.invokevirtual 293, 3) := by decide +kernel
theorem dX16_pass_45 : decode cX16_pass 45 = .ok (.ireturn, 1) := by decide +kernel
theorem dX16_pass_46 : decode cX16_pass 46 = .ok (.aload_n 0, 1) := by decide +kernel
theorem dX16_pass_47 : decode cX16_pass 47 = .ok (.dup, 1) := by decide +kernel
theorem dX16_pass_48 : decode cX16_pass 48 = .ok (.getfield 314, 3) := by decide +kernel
theorem dX16_pass_51 : decode cX16_pass 51 = .ok (.iload_n 1, 1) := by decide +kernel
theorem dX16_pass_52 : decode cX16_pass 52 = .ok (.iadd, 1) := by decide +kernel
theorem dX16_pass_53 : decode cX16_pass 53 = .ok (.putfield 314, 3) := by decide +kernel
theorem dX16_pass_56 : decode cX16_pass 56 = .ok (.aload_n 0, 1) := by decide +kernel
theorem dX16_pass_57 : decode cX16_pass 57 = .ok (.aload_n 0, 1) := by decide +kernel
theorem dX16_pass_58 : decode cX16_pass 58 = .ok (.getfield 314, 3) := by decide +kernel
theorem dX16_pass_61 : decode cX16_pass 61 = .ok (.invokevirtual 323, 3) := by decide +kernel
theorem dX16_pass_64 : decode cX16_pass 64 = .ok (.ireturn, 1) := by decide +kernel
theorem dX16_isTable_0 : decode cX16_isTable 0 = .ok (.iload_n 1, 1) := by decide +kernel
theorem dX16_isTable_1 : decode cX16_isTable 1 = .ok (.ifCond .lt 15, 3) := by decide +kernel
theorem dX16_isTable_4 : decode cX16_isTable 4 = .ok (.iload_n 1, 1) := by decide +kernel
theorem dX16_isTable_5 : decode cX16_isTable 5 = .ok (.aload_n 0, 1) := by decide +kernel
theorem dX16_isTable_6 : decode cX16_isTable 6 = .ok (.getfield 311, 3) := by decide +kernel
theorem dX16_isTable_9 : decode cX16_isTable 9 = .ok (.if_icmp .ge 7, 3) := by decide +kernel
theorem dX16_isTable_12 : decode cX16_isTable 12 = .ok (.iconst 1, 1) := by decide +kernel
theorem dX16_isTable_13 : decode cX16_isTable 13 = .ok (.goto 4, 3) := by decide +kernel
theorem dX16_isTable_16 : decode cX16_isTable 16 = .ok (.iconst 0, 1) := by decide +kernel
theorem dX16_isTable_17 : decode cX16_isTable 17 = .ok (.ireturn, 1) := by decide +kernel
theorem dX16_valuesOf_0 : decode cX16_valuesOf 0 = .ok (.iload_n 1, 1) := by decide +kernel
theorem dX16_valuesOf_1 : decode cX16_valuesOf 1 = .ok (.iconst (-1), 1) := by decide +kernel
theorem dX16_valuesOf_2 : decode cX16_valuesOf 2 = .ok (.if_icmp .ne 7, 3) := by decide +kernel
theorem dX16_valuesOf_5 : decode cX16_valuesOf 5 = .ok (.iconst 1, 1) := by decide +kernel
theorem dX16_valuesOf_6 : decode cX16_valuesOf 6 = .ok (.goto 14, 3) := by decide +kernel
theorem dX16_valuesOf_9 : decode cX16_valuesOf 9 = .ok (.aload_n 0, 1) := by decide +kernel
theorem dX16_valuesOf_10 : decode cX16_valuesOf 10 = .ok (.getfield 274, 3) := by decide +kernel
theorem dX16_valuesOf_13 : decode cX16_valuesOf 13 = .ok (.getfield 235, 3) := by decide +kernel
theorem dX16_valuesOf_16 : decode cX16_valuesOf 16 = .ok (.iload_n 1, 1) := by decide +kernel
theorem dX16_valuesOf_17 : decode cX16_valuesOf 17 = .ok (.iaload, 1) := by decide +kernel
theorem dX16_valuesOf_18 : decode cX16_valuesOf 18 = .ok (.iconst 1, 1) := by decide +kernel
theorem dX16_valuesOf_19 : decode cX16_valuesOf 19 = .ok (.iadd, 1) := by decide +kernel
theorem dX16_valuesOf_20 : decode cX16_valuesOf 20 = .ok (.ireturn, 1) := by decide +kernel
theorem dX16_isCell_0 : decode cX16_isCell 0 = .ok (.aload_n 0, 1) := by decide +kernel
theorem dX16_isCell_1 : decode cX16_isCell 1 = .ok (.iload_n 1, 1) := by decide +kernel
theorem dX16_isCell_2 : decode cX16_isCell 2 = .ok (.invokevirtual 379, 3) := by decide +kernel
theorem dX16_isCell_5 : decode cX16_isCell 5 = .ok (.ifCond .eq 53, 3) := by decide +kernel
theorem dX16_isCell_8 : decode cX16_isCell 8 = .ok (.iload_n 2, 1) := by decide +kernel
theorem dX16_isCell_9 : decode cX16_isCell 9 = .ok (.iconst 0, 1) := by decide +kernel
theorem dX16_isCell_10 : decode cX16_isCell 10 = .ok (.aload_n 0, 1) := by decide +kernel
theorem dX16_isCell_11 : decode cX16_isCell 11 = .ok (.aload_n 0, 1) := by decide +kernel
theorem dX16_isCell_12 : decode cX16_isCell 12 = .ok (.getfield 15, 3) := by decide +kernel
theorem dX16_isCell_15 : decode cX16_isCell 15 = .ok (.iload_n 1, 1) := by decide +kernel
theorem dX16_isCell_16 : decode cX16_isCell 16 = .ok (.aaload, 1) := by decide +kernel
theorem dX16_isCell_17 : decode cX16_isCell 17 = .ok (.getfield 279, 3) := by decide +kernel
theorem dX16_isCell_20 : decode cX16_isCell 20 = .ok (.invokevirtual 382, 3) := by decide +kernel
theorem dX16_isCell_23 : decode cX16_isCell 23 = .ok (.iconst 1, 1) := by decide +kernel
theorem dX16_isCell_24 : decode cX16_isCell 24 = .ok (.isub, 1) := by decide +kernel
theorem dX16_isCell_25 : decode cX16_isCell 25 = .ok (.invokestatic 231, 3) := by decide +kernel
theorem dX16_isCell_28 : decode cX16_isCell 28 = .ok (.ifCond .eq 30, 3) := by decide +kernel
theorem dX16_isCell_31 : decode cX16_isCell 31 = .ok (.iload_n 3, 1) := by decide +kernel
theorem dX16_isCell_32 : decode cX16_isCell 32 = .ok (.iconst 0, 1) := by decide +kernel
theorem dX16_isCell_33 : decode cX16_isCell 33 = .ok (.aload_n 0, 1) := by decide +kernel
theorem dX16_isCell_34 : decode cX16_isCell 34 = .ok (.aload_n 0, 1) := by decide +kernel
theorem dX16_isCell_35 : decode cX16_isCell 35 = .ok (.getfield 15, 3) := by decide +kernel
theorem dX16_isCell_38 : decode cX16_isCell 38 = .ok (.iload_n 1, 1) := by decide +kernel
theorem dX16_isCell_39 : decode cX16_isCell 39 = .ok (.aaload, 1) := by decide +kernel
theorem dX16_isCell_40 : decode cX16_isCell 40 = .ok (.getfield 281, 3) := by decide +kernel
theorem dX16_isCell_43 : decode cX16_isCell 43 = .ok (.invokevirtual 382, 3) := by decide +kernel
theorem dX16_isCell_46 : decode cX16_isCell 46 = .ok (.iconst 1, 1) := by decide +kernel
theorem dX16_isCell_47 : decode cX16_isCell 47 = .ok (.isub, 1) := by decide +kernel
theorem dX16_isCell_48 : decode cX16_isCell 48 = .ok (.invokestatic 231, 3) := by decide +kernel
theorem dX16_isCell_51 : decode cX16_isCell 51 = .ok (.ifCond .eq 7, 3) := by decide +kernel
theorem dX16_isCell_54 : decode cX16_isCell 54 = .ok (.iconst 1, 1) := by decide +kernel
theorem dX16_isCell_55 : decode cX16_isCell 55 = .ok (.goto 4, 3) := by decide +kernel
theorem dX16_isCell_58 : decode cX16_isCell 58 = .ok (.iconst 0, 1) := by decide +kernel
theorem dX16_isCell_59 : decode cX16_isCell 59 = .ok (.ireturn, 1) := by decide +kernel
theorem dX16_isIn_0 : decode cX16_isIn 0 = .ok (.aload_n 0, 1) := by decide +kernel
theorem dX16_isIn_1 : decode cX16_isIn 1 = .ok (.iload_n 2, 1) := by decide +kernel
theorem dX16_isIn_2 : decode cX16_isIn 2 = .ok (.iload 5, 2) := by decide +kernel
theorem dX16_isIn_4 : decode cX16_isIn 4 = .ok (.invokevirtual 353, 3) := by decide +kernel
theorem dX16_isIn_7 : decode cX16_isIn 7 = .ok (.ifCond .ne 5, 3) := by decide +kernel
theorem dX16_isIn_10 : decode cX16_isIn 10 = .ok (.iconst 0, 1) := by decide +kernel
theorem dX16_isIn_11 : decode cX16_isIn 11 = .ok (.ireturn, 1) := by decide +kernel
theorem dX16_isIn_12 : decode cX16_isIn 12 = .ok (.aload_n 0, 1) := by decide +kernel
theorem dX16_isIn_13 : decode cX16_isIn 13 = .ok (.iload_n 2, 1) := by decide +kernel
theorem dX16_isIn_14 : decode cX16_isIn 14 = .ok (.iload 5, 2) := by decide +kernel
theorem dX16_isIn_16 : decode cX16_isIn 16 = .ok (.iload 6, 2) := by decide +kernel
theorem dX16_isIn_18 : decode cX16_isIn 18 = .ok (.aload_n 0, 1) := by decide +kernel
theorem dX16_isIn_19 : decode cX16_isIn 19 = .ok (.getfield 58, 3) := by decide +kernel
theorem dX16_isIn_22 : decode cX16_isIn 22 = .ok (.invokevirtual 349, 3) := by decide +kernel
theorem dX16_isIn_25 : decode cX16_isIn 25 = .ok (.aload_n 0, 1) := by decide +kernel
theorem dX16_isIn_26 : decode cX16_isIn 26 = .ok (.getfield 274, 3) := by decide +kernel
theorem dX16_isIn_29 : decode cX16_isIn 29 = .ok (.aload_n 0, 1) := by decide +kernel
theorem dX16_isIn_30 : decode cX16_isIn 30 = .ok (.getfield 58, 3) := by decide +kernel
theorem dX16_isIn_33 : decode cX16_isIn 33 = .ok (.invokevirtual 356, 3) := by decide +kernel
theorem dX16_isIn_36 : decode cX16_isIn 36 = .ok (.iconst (-1), 1) := by decide +kernel
theorem dX16_isIn_37 : decode cX16_isIn 37 = .ok (.if_icmp .ne 24, 3) := by decide +kernel
theorem dX16_isIn_40 : decode cX16_isIn 40 = .ok (.aload_n 1, 1) := by decide +kernel
theorem dX16_isIn_41 : decode cX16_isIn 41 = .ok (.getfield 284, 3) := by decide +kernel
theorem dX16_isIn_44 : decode cX16_isIn 44 = .ok (.ifnull 19, 3) := by decide +kernel
theorem dX16_isIn_47 : decode cX16_isIn 47 = .ok (.aload_n 1, 1) := by decide +kernel
theorem dX16_isIn_48 : decode cX16_isIn 48 = .ok (.getfield 284, 3) := by decide +kernel
theorem dX16_isIn_51 : decode cX16_isIn 51 = .ok (.aload_n 0, 1) := by decide +kernel
theorem dX16_isIn_52 : decode cX16_isIn 52 = .ok (.getfield 58, 3) := by decide +kernel
theorem dX16_isIn_55 : decode cX16_isIn 55 = .ok (.invokevirtual 385, 3) := by decide +kernel
theorem dX16_isIn_58 : decode cX16_isIn 58 = .ok (.ifCond .ne 5, 3) := by decide +kernel
theorem dX16_isIn_61 : decode cX16_isIn 61 = .ok (.iconst 0, 1) := by decide +kernel
theorem dX16_isIn_62 : decode cX16_isIn 62 = .ok (.ireturn, 1) := by decide +kernel
theorem dX16_isIn_63 : decode cX16_isIn 63 = .ok (.aload_n 1, 1) := by decide +kernel
theorem dX16_isIn_64 : decode cX16_isIn 64 = .ok (.getfield 279, 3) := by decide +kernel
theorem dX16_isIn_67 : decode cX16_isIn 67 = .ok (.iconst (-1), 1) := by decide +kernel
theorem dX16_isIn_68 : decode cX16_isIn 68 = .ok (.if_icmp .eq 16, 3) := by decide +kernel
theorem dX16_isIn_71 : decode cX16_isIn 71 = .ok (.aload_n 0, 1) := by decide +kernel
theorem dX16_isIn_72 : decode cX16_isIn 72 = .ok (.getfield 58, 3) := by decide +kernel
theorem dX16_isIn_75 : decode cX16_isIn 75 = .ok (.aload_n 1, 1) := by decide +kernel
theorem dX16_isIn_76 : decode cX16_isIn 76 = .ok (.getfield 279, 3) := by decide +kernel
theorem dX16_isIn_79 : decode cX16_isIn 79 = .ok (.iaload, 1) := by decide +kernel
theorem dX16_isIn_80 : decode cX16_isIn 80 = .ok (.iload_n 3, 1) := by decide +kernel
theorem dX16_isIn_81 : decode cX16_isIn 81 = .ok (.if_icmp .ne 50, 3) := by decide +kernel
theorem dX16_isIn_84 : decode cX16_isIn 84 = .ok (.aload_n 1, 1) := by decide +kernel
theorem dX16_isIn_85 : decode cX16_isIn 85 = .ok (.getfield 281, 3) := by decide +kernel
theorem dX16_isIn_88 : decode cX16_isIn 88 = .ok (.iconst (-1), 1) := by decide +kernel
theorem dX16_isIn_89 : decode cX16_isIn 89 = .ok (.if_icmp .eq 17, 3) := by decide +kernel
theorem dX16_isIn_92 : decode cX16_isIn 92 = .ok (.aload_n 0, 1) := by decide +kernel
theorem dX16_isIn_93 : decode cX16_isIn 93 = .ok (.getfield 58, 3) := by decide +kernel
theorem dX16_isIn_96 : decode cX16_isIn 96 = .ok (.aload_n 1, 1) := by decide +kernel
theorem dX16_isIn_97 : decode cX16_isIn 97 = .ok (.getfield 281, 3) := by decide +kernel
theorem dX16_isIn_100 : decode cX16_isIn 100 = .ok (.iaload, 1) := by decide +kernel
theorem dX16_isIn_101 : decode cX16_isIn 101 = .ok (.iload 4, 2) := by decide +kernel
theorem dX16_isIn_103 : decode cX16_isIn 103 = .ok (.if_icmp .ne 28, 3) := by decide +kernel
theorem dX16_isIn_106 : decode cX16_isIn 106 = .ok (.aload_n 1, 1) := by decide +kernel
theorem dX16_isIn_107 : decode cX16_isIn 107 = .ok (.getfield 277, 3) := by decide +kernel
theorem dX16_isIn_110 : decode cX16_isIn 110 = .ok (.iconst (-1), 1) := by decide +kernel
theorem dX16_isIn_111 : decode cX16_isIn 111 = .ok (.if_icmp .eq 16, 3) := by decide +kernel
theorem dX16_isIn_114 : decode cX16_isIn 114 = .ok (.aload_n 0, 1) := by decide +kernel
theorem dX16_isIn_115 : decode cX16_isIn 115 = .ok (.getfield 58, 3) := by decide +kernel
theorem dX16_isIn_118 : decode cX16_isIn 118 = .ok (.aload_n 1, 1) := by decide +kernel
theorem dX16_isIn_119 : decode cX16_isIn 119 = .ok (.getfield 277, 3) := by decide +kernel
theorem dX16_isIn_122 : decode cX16_isIn 122 = .ok (.iaload, 1) := by decide +kernel
theorem dX16_isIn_123 : decode cX16_isIn 123 = .ok (.iconst (-1), 1) := by decide +kernel
theorem dX16_isIn_124 : decode cX16_isIn 124 = .ok (.if_icmp .eq 7, 3) := by decide +kernel
theorem dX16_isIn_127 : decode cX16_isIn 127 = .ok (.iconst 1, 1) := by decide +kernel
theorem dX16_isIn_128 : decode cX16_isIn 128 = .ok (.goto 4, 3) := by decide +kernel
theorem dX16_isIn_131 : decode cX16_isIn 131 = .ok (.iconst 0, 1) := by decide +kernel
theorem dX16_isIn_132 : decode cX16_isIn 132 = .ok (.ireturn, 1) := by decide +kernel
theorem dX16_figureOf_0 : decode cX16_figureOf 0 = .ok (.lconst 0, 1) := by decide +kernel
theorem dX16_figureOf_1 : decode cX16_figureOf 1 = .ok (.lstore 6, 2) := by decide +kernel
theorem dX16_figureOf_3 : decode cX16_figureOf 3 = .ok (.iconst 0, 1) := by decide +kernel
theorem dX16_figureOf_4 : decode cX16_figureOf 4 = .ok (.istore 8, 2) := by decide +kernel
theorem dX16_figureOf_6 : decode cX16_figureOf 6 = .ok (.iload 8, 2) := by decide +kernel
theorem dX16_figureOf_8 : decode cX16_figureOf 8 = .ok (.aload_n 0, 1) := by decide +kernel
theorem dX16_figureOf_9 : decode cX16_figureOf 9 = .ok (.getfield 308, 3) := by decide +kernel
theorem dX16_figureOf_12 : decode cX16_figureOf 12 = .ok (.if_icmp .ge 61, 3) := by decide +kernel
theorem dX16_figureOf_15 : decode cX16_figureOf 15 = .ok (.aload_n 0, 1) := by decide +kernel
theorem dX16_figureOf_16 : decode cX16_figureOf 16 = .ok (.aload_n 1, 1) := by decide +kernel
theorem dX16_figureOf_17 : decode cX16_figureOf 17 = .ok (.iload 8, 2) := by decide +kernel
theorem dX16_figureOf_19 : decode cX16_figureOf 19 = .ok (.iload_n 2, 1) := by decide +kernel
theorem dX16_figureOf_20 : decode cX16_figureOf 20 = .ok (.iload_n 3, 1) := by decide +kernel
theorem dX16_figureOf_21 : decode cX16_figureOf 21 = .ok (.iload 4, 2) := by decide +kernel
theorem dX16_figureOf_23 : decode cX16_figureOf 23 = .ok (.iload 5, 2) := by decide +kernel
theorem dX16_figureOf_25 : decode cX16_figureOf 25 = .ok (.invokevirtual 389, 3) := by decide +kernel
theorem dX16_figureOf_28 : decode cX16_figureOf 28 = .ok (.ifCond .eq 39, 3) := by decide +kernel
theorem dX16_figureOf_31 : decode cX16_figureOf 31 = .ok (.lload 6, 2) := by decide +kernel
theorem dX16_figureOf_33 : decode cX16_figureOf 33 = .ok (.aload_n 0, 1) := by decide +kernel
theorem dX16_figureOf_34 : decode cX16_figureOf 34 = .ok (.getfield 55, 3) := by decide +kernel
theorem dX16_figureOf_37 : decode cX16_figureOf 37 = .ok (.iload 8, 2) := by decide +kernel
theorem dX16_figureOf_39 : decode cX16_figureOf 39 = .ok (.iaload, 1) := by decide +kernel
theorem dX16_figureOf_40 : decode cX16_figureOf 40 = .ok (.i2l, 1) := by decide +kernel
theorem dX16_figureOf_41 : decode cX16_figureOf 41 = .ok (.aload_n 1, 1) := by decide +kernel
theorem dX16_figureOf_42 : decode cX16_figureOf 42 = .ok (.getfield 277, 3) := by decide +kernel
theorem dX16_figureOf_45 : decode cX16_figureOf 45 = .ok (.iconst (-1), 1) := by decide +kernel
theorem dX16_figureOf_46 : decode cX16_figureOf 46 = .ok (.if_icmp .ne 7, 3) := by decide +kernel
theorem dX16_figureOf_49 : decode cX16_figureOf 49 = .ok (.iconst 1, 1) := by decide +kernel
theorem dX16_figureOf_50 : decode cX16_figureOf 50 = .ok (.goto 12, 3) := by decide +kernel
theorem dX16_figureOf_53 : decode cX16_figureOf 53 = .ok (.aload_n 0, 1) := by decide +kernel
theorem dX16_figureOf_54 : decode cX16_figureOf 54 = .ok (.getfield 58, 3) := by decide +kernel
theorem dX16_figureOf_57 : decode cX16_figureOf 57 = .ok (.aload_n 1, 1) := by decide +kernel
theorem dX16_figureOf_58 : decode cX16_figureOf 58 = .ok (.getfield 277, 3) := by decide +kernel
theorem dX16_figureOf_61 : decode cX16_figureOf 61 = .ok (.iaload, 1) := by decide +kernel
theorem dX16_figureOf_62 : decode cX16_figureOf 62 = .ok (.i2l, 1) := by decide +kernel
theorem dX16_figureOf_63 : decode cX16_figureOf 63 = .ok (.lmul, 1) := by decide +kernel
theorem dX16_figureOf_64 : decode cX16_figureOf 64 = .ok (.ladd, 1) := by decide +kernel
theorem dX16_figureOf_65 : decode cX16_figureOf 65 = .ok (.lstore 6, 2) := by decide +kernel
theorem dX16_figureOf_67 : decode cX16_figureOf 67 = .ok (.iinc 8 1, 3) := by decide +kernel
theorem dX16_figureOf_70 : decode cX16_figureOf 70 = .ok (.goto (-64), 3) := by decide +kernel
theorem dX16_figureOf_73 : decode cX16_figureOf 73 = .ok (.lload 6, 2) := by decide +kernel
theorem dX16_figureOf_75 : decode cX16_figureOf 75 = .ok (.lreturn, 1) := by decide +kernel
theorem dX16_figure_0 : decode cX16_figure 0 = .ok (.aload_n 0, 1) := by decide +kernel
theorem dX16_figure_1 : decode cX16_figure 1 = .ok (.iconst 0, 1) := by decide +kernel
theorem dX16_figure_2 : decode cX16_figure 2 = .ok (.putfield 109, 3) := by decide +kernel
theorem dX16_figure_5 : decode cX16_figure 5 = .ok (.aload_n 0, 1) := by decide +kernel
theorem dX16_figure_6 : decode cX16_figure 6 = .ok (.iload_n 1, 1) := by decide +kernel
theorem dX16_figure_7 : decode cX16_figure 7 = .ok (.iload_n 2, 1) := by decide +kernel
theorem dX16_figure_8 : decode cX16_figure 8 = .ok (.iload_n 3, 1) := by decide +kernel
theorem dX16_figure_9 : decode cX16_figure 9 = .ok (.invokevirtual 393, 3) := by decide +kernel
theorem dX16_figure_12 : decode cX16_figure 12 = .ok (.ifCond .ne 9, 3) := by decide +kernel
theorem dX16_figure_15 : decode cX16_figure 15 = .ok (.aload_n 0, 1) := by decide +kernel
theorem dX16_figure_16 : decode cX16_figure 16 = .ok (.iconst 1, 1) := by decide +kernel
theorem dX16_figure_17 : decode cX16_figure 17 = .ok (.invokevirtual 396, 3) := by decide +kernel
theorem dX16_figure_20 : decode cX16_figure 20 = .ok (.lreturn, 1) := by decide +kernel
theorem dX16_figure_21 : decode cX16_figure 21 = .ok (.iload 4, 2) := by decide +kernel
theorem dX16_figure_23 : decode cX16_figure 23 = .ok (.iconst 0, 1) := by decide +kernel
theorem dX16_figure_24 : decode cX16_figure 24 = .ok (.aload_n 0, 1) := by decide +kernel
theorem dX16_figure_25 : decode cX16_figure 25 = .ok (.getfield 314, 3) := by decide +kernel
theorem dX16_figure_28 : decode cX16_figure 28 = .ok (.invokestatic 231, 3) := by decide +kernel
theorem dX16_figure_31 : decode cX16_figure 31 = .ok (.ifCond .eq 13, 3) := by decide +kernel
theorem dX16_figure_34 : decode cX16_figure 34 = .ok (.iload 5, 2) := by decide +kernel
theorem dX16_figure_36 : decode cX16_figure 36 = .ok (.iconst 0, 1) := by decide +kernel
theorem dX16_figure_37 : decode cX16_figure 37 = .ok (.iconst 4, 1) := by decide +kernel
theorem dX16_figure_38 : decode cX16_figure 38 = .ok (.invokestatic 231, 3) := by decide +kernel
theorem dX16_figure_41 : decode cX16_figure 41 = .ok (.ifCond .ne 9, 3) := by decide +kernel
theorem dX16_figure_44 : decode cX16_figure 44 = .ok (.aload_n 0, 1) := by decide +kernel
theorem dX16_figure_45 : decode cX16_figure 45 = .ok (.iconst 2, 1) := by decide +kernel
theorem dX16_figure_46 : decode cX16_figure 46 = .ok (.invokevirtual 396, 3) := by decide +kernel
theorem dX16_figure_49 : decode cX16_figure 49 = .ok (.lreturn, 1) := by decide +kernel
theorem dX16_figure_50 : decode cX16_figure 50 = .ok (.aload_n 0, 1) := by decide +kernel
theorem dX16_figure_51 : decode cX16_figure 51 = .ok (.aload_n 0, 1) := by decide +kernel
theorem dX16_figure_52 : decode cX16_figure 52 = .ok (.aload_n 0, 1) := by decide +kernel
theorem dX16_figure_53 : decode cX16_figure 53 = .ok (.getfield 15, 3) := by decide +kernel
theorem dX16_figure_56 : decode cX16_figure 56 = .ok (.iload_n 1, 1) := by decide +kernel
theorem dX16_figure_57 : decode cX16_figure 57 = .ok (.aaload, 1) := by decide +kernel
theorem dX16_figure_58 : decode cX16_figure 58 = .ok (.iload_n 2, 1) := by decide +kernel
theorem dX16_figure_59 : decode cX16_figure 59 = .ok (.iload_n 3, 1) := by decide +kernel
theorem dX16_figure_60 : decode cX16_figure 60 = .ok (.iload 4, 2) := by decide +kernel
theorem dX16_figure_62 : decode cX16_figure 62 = .ok (.iload 5, 2) := by decide +kernel
theorem dX16_figure_64 : decode cX16_figure 64 = .ok (.invokevirtual 400, 3) := by decide +kernel
theorem dX16_figure_67 : decode cX16_figure 67 = .ok (.invokevirtual 404, 3) := by decide +kernel
theorem dX16_figure_70 : decode cX16_figure 70 = .ok (.lreturn, 1) := by decide +kernel
theorem dX16_span_0 : decode cX16_span 0 = .ok (.aload_n 0, 1) := by decide +kernel
theorem dX16_span_1 : decode cX16_span 1 = .ok (.iconst 0, 1) := by decide +kernel
theorem dX16_span_2 : decode cX16_span 2 = .ok (.putfield 109, 3) := by decide +kernel
theorem dX16_span_5 : decode cX16_span 5 = .ok (.aload_n 0, 1) := by decide +kernel
theorem dX16_span_6 : decode cX16_span 6 = .ok (.iload_n 1, 1) := by decide +kernel
theorem dX16_span_7 : decode cX16_span 7 = .ok (.iload_n 2, 1) := by decide +kernel
theorem dX16_span_8 : decode cX16_span 8 = .ok (.iload_n 3, 1) := by decide +kernel
theorem dX16_span_9 : decode cX16_span 9 = .ok (.invokevirtual 393, 3) := by decide +kernel
theorem dX16_span_12 : decode cX16_span 12 = .ok (.ifCond .ne 9, 3) := by decide +kernel
theorem dX16_span_15 : decode cX16_span 15 = .ok (.aload_n 0, 1) := by decide +kernel
theorem dX16_span_16 : decode cX16_span 16 = .ok (.iconst 1, 1) := by decide +kernel
theorem dX16_span_17 : decode cX16_span 17 = .ok (.invokevirtual 396, 3) := by decide +kernel
theorem dX16_span_20 : decode cX16_span 20 = .ok (.lreturn, 1) := by decide +kernel
theorem dX16_span_21 : decode cX16_span 21 = .ok (.aload_n 0, 1) := by decide +kernel
theorem dX16_span_22 : decode cX16_span 22 = .ok (.aload_n 0, 1) := by decide +kernel
theorem dX16_span_23 : decode cX16_span 23 = .ok (.getfield 15, 3) := by decide +kernel
theorem dX16_span_26 : decode cX16_span 26 = .ok (.iload_n 1, 1) := by decide +kernel
theorem dX16_span_27 : decode cX16_span 27 = .ok (.aaload, 1) := by decide +kernel
theorem dX16_span_28 : decode cX16_span 28 = .ok (.iload_n 2, 1) := by decide +kernel
theorem dX16_span_29 : decode cX16_span 29 = .ok (.iload_n 3, 1) := by decide +kernel
theorem dX16_span_30 : decode cX16_span 30 = .ok (.aload_n 0, 1) := by decide +kernel
theorem dX16_span_31 : decode cX16_span 31 = .ok (.getfield 314, 3) := by decide +kernel
theorem dX16_span_34 : decode cX16_span 34 = .ok (.iconst 0, 1) := by decide +kernel
theorem dX16_span_35 : decode cX16_span 35 = .ok (.invokevirtual 400, 3) := by decide +kernel
theorem dX16_span_38 : decode cX16_span 38 = .ok (.lstore 5, 2) := by decide +kernel
theorem dX16_span_40 : decode cX16_span 40 = .ok (.iconst 1, 1) := by decide +kernel
theorem dX16_span_41 : decode cX16_span 41 = .ok (.istore 7, 2) := by decide +kernel
theorem dX16_span_43 : decode cX16_span 43 = .ok (.iload 7, 2) := by decide +kernel
theorem dX16_span_45 : decode cX16_span 45 = .ok (.iconst 5, 1) := by decide +kernel
theorem dX16_span_46 : decode cX16_span 46 = .ok (.if_icmp .ge 53, 3) := by decide +kernel
theorem dX16_span_49 : decode cX16_span 49 = .ok (.aload_n 0, 1) := by decide +kernel
theorem dX16_span_50 : decode cX16_span 50 = .ok (.aload_n 0, 1) := by decide +kernel
theorem dX16_span_51 : decode cX16_span 51 = .ok (.getfield 15, 3) := by decide +kernel
theorem dX16_span_54 : decode cX16_span 54 = .ok (.iload_n 1, 1) := by decide +kernel
theorem dX16_span_55 : decode cX16_span 55 = .ok (.aaload, 1) := by decide +kernel
theorem dX16_span_56 : decode cX16_span 56 = .ok (.iload_n 2, 1) := by decide +kernel
theorem dX16_span_57 : decode cX16_span 57 = .ok (.iload_n 3, 1) := by decide +kernel
theorem dX16_span_58 : decode cX16_span 58 = .ok (.aload_n 0, 1) := by decide +kernel
theorem dX16_span_59 : decode cX16_span 59 = .ok (.getfield 314, 3) := by decide +kernel
theorem dX16_span_62 : decode cX16_span 62 = .ok (.iload 7, 2) := by decide +kernel
theorem dX16_span_64 : decode cX16_span 64 = .ok (.invokevirtual 400, 3) := by decide +kernel
theorem dX16_span_67 : decode cX16_span 67 = .ok (.lstore 8, 2) := by decide +kernel
theorem dX16_span_69 : decode cX16_span 69 = .ok (.iload 4, 2) := by decide +kernel
theorem dX16_span_71 : decode cX16_span 71 = .ok (.ifCond .eq 13, 3) := by decide +kernel
theorem dX16_span_74 : decode cX16_span 74 = .ok (.lload 5, 2) := by decide +kernel
theorem dX16_span_76 : decode cX16_span 76 = .ok (.lload 8, 2) := by decide +kernel
theorem dX16_span_78 : decode cX16_span 78 = .ok (.invokestatic 408, 3) := by decide +kernel
theorem dX16_span_81 : decode cX16_span 81 = .ok (.goto 10, 3) := by decide +kernel
theorem dX16_span_84 : decode cX16_span 84 = .ok (.lload 5, 2) := by decide +kernel
theorem dX16_span_86 : decode cX16_span 86 = .ok (.lload 8, 2) := by decide +kernel
theorem dX16_span_88 : decode cX16_span 88 = .ok (.invokestatic 414, 3) := by decide +kernel
theorem dX16_span_91 : decode cX16_span 91 = .ok (.lstore 5, 2) := by decide +kernel
theorem dX16_span_93 : decode cX16_span 93 = .ok (.iinc 7 1, 3) := by decide +kernel
theorem dX16_span_96 : decode cX16_span 96 = .ok (.goto (-53), 3) := by decide +kernel
theorem dX16_span_99 : decode cX16_span 99 = .ok (.aload_n 0, 1) := by decide +kernel
theorem dX16_span_100 : decode cX16_span 100 = .ok (.lload 5, 2) := by decide +kernel
theorem dX16_span_102 : decode cX16_span 102 = .ok (.invokevirtual 404, 3) := by decide +kernel
theorem dX16_span_105 : decode cX16_span 105 = .ok (.lreturn, 1) := by decide +kernel
theorem dX16_far_0 : decode cX16_far 0 = .ok (.aload_n 0, 1) := by decide +kernel
theorem dX16_far_1 : decode cX16_far 1 = .ok (.iconst 0, 1) := by decide +kernel
theorem dX16_far_2 : decode cX16_far 2 = .ok (.putfield 109, 3) := by decide +kernel
theorem dX16_far_5 : decode cX16_far 5 = .ok (.aload_n 0, 1) := by decide +kernel
theorem dX16_far_6 : decode cX16_far 6 = .ok (.iload_n 1, 1) := by decide +kernel
theorem dX16_far_7 : decode cX16_far 7 = .ok (.iload_n 2, 1) := by decide +kernel
theorem dX16_far_8 : decode cX16_far 8 = .ok (.iload_n 3, 1) := by decide +kernel
theorem dX16_far_9 : decode cX16_far 9 = .ok (.invokevirtual 393, 3) := by decide +kernel
theorem dX16_far_12 : decode cX16_far 12 = .ok (.ifCond .ne 9, 3) := by decide +kernel
theorem dX16_far_15 : decode cX16_far 15 = .ok (.aload_n 0, 1) := by decide +kernel
theorem dX16_far_16 : decode cX16_far 16 = .ok (.iconst 1, 1) := by decide +kernel
theorem dX16_far_17 : decode cX16_far 17 = .ok (.invokevirtual 396, 3) := by decide +kernel
theorem dX16_far_20 : decode cX16_far 20 = .ok (.lreturn, 1) := by decide +kernel
theorem dX16_far_21 : decode cX16_far 21 = .ok (.iload 4, 2) := by decide +kernel
theorem dX16_far_23 : decode cX16_far 23 = .ok (.iconst 0, 1) := by decide +kernel
theorem dX16_far_24 : decode cX16_far 24 = .ok (.aload_n 0, 1) := by decide +kernel
theorem dX16_far_25 : decode cX16_far 25 = .ok (.getfield 314, 3) := by decide +kernel
theorem dX16_far_28 : decode cX16_far 28 = .ok (.invokestatic 231, 3) := by decide +kernel
theorem dX16_far_31 : decode cX16_far 31 = .ok (.ifCond .eq 16, 3) := by decide +kernel
theorem dX16_far_34 : decode cX16_far 34 = .ok (.iload 5, 2) := by decide +kernel
theorem dX16_far_36 : decode cX16_far 36 = .ok (.iconst 0, 1) := by decide +kernel
theorem dX16_far_37 : decode cX16_far 37 = .ok (.aload_n 0, 1) := by decide +kernel
theorem dX16_far_38 : decode cX16_far 38 = .ok (.getfield 314, 3) := by decide +kernel
theorem dX16_far_41 : decode cX16_far 41 = .ok (.invokestatic 231, 3) := by decide +kernel
theorem dX16_far_44 : decode cX16_far 44 = .ok (.ifCond .ne 9, 3) := by decide +kernel
theorem dX16_far_47 : decode cX16_far 47 = .ok (.aload_n 0, 1) := by decide +kernel
theorem dX16_far_48 : decode cX16_far 48 = .ok (.iconst 2, 1) := by decide +kernel
theorem dX16_far_49 : decode cX16_far 49 = .ok (.invokevirtual 396, 3) := by decide +kernel
theorem dX16_far_52 : decode cX16_far 52 = .ok (.lreturn, 1) := by decide +kernel
theorem dX16_far_53 : decode cX16_far 53 = .ok (.aload_n 0, 1) := by decide +kernel
theorem dX16_far_54 : decode cX16_far 54 = .ok (.aload_n 0, 1) := by decide +kernel
theorem dX16_far_55 : decode cX16_far 55 = .ok (.aload_n 0, 1) := by decide +kernel
theorem dX16_far_56 : decode cX16_far 56 = .ok (.getfield 15, 3) := by decide +kernel
theorem dX16_far_59 : decode cX16_far 59 = .ok (.iload_n 1, 1) := by decide +kernel
theorem dX16_far_60 : decode cX16_far 60 = .ok (.aaload, 1) := by decide +kernel
theorem dX16_far_61 : decode cX16_far 61 = .ok (.iload_n 2, 1) := by decide +kernel
theorem dX16_far_62 : decode cX16_far 62 = .ok (.iload_n 3, 1) := by decide +kernel
theorem dX16_far_63 : decode cX16_far 63 = .ok (.iload 5, 2) := by decide +kernel
theorem dX16_far_65 : decode cX16_far 65 = .ok (.iconst 0, 1) := by decide +kernel
theorem dX16_far_66 : decode cX16_far 66 = .ok (.invokevirtual 400, 3) := by decide +kernel
theorem dX16_far_69 : decode cX16_far 69 = .ok (.aload_n 0, 1) := by decide +kernel
theorem dX16_far_70 : decode cX16_far 70 = .ok (.aload_n 0, 1) := by decide +kernel
theorem dX16_far_71 : decode cX16_far 71 = .ok (.getfield 15, 3) := by decide +kernel
theorem dX16_far_74 : decode cX16_far 74 = .ok (.iload_n 1, 1) := by decide +kernel
theorem dX16_far_75 : decode cX16_far 75 = .ok (.aaload, 1) := by decide +kernel
theorem dX16_far_76 : decode cX16_far 76 = .ok (.iload_n 2, 1) := by decide +kernel
theorem dX16_far_77 : decode cX16_far 77 = .ok (.iload_n 3, 1) := by decide +kernel
theorem dX16_far_78 : decode cX16_far 78 = .ok (.iload 4, 2) := by decide +kernel
theorem dX16_far_80 : decode cX16_far 80 = .ok (.iconst 0, 1) := by decide +kernel
theorem dX16_far_81 : decode cX16_far 81 = .ok (.invokevirtual 400, 3) := by decide +kernel
theorem dX16_far_84 : decode cX16_far 84 = .ok (.lsub, 1) := by decide +kernel
theorem dX16_far_85 : decode cX16_far 85 = .ok (.invokevirtual 404, 3) := by decide +kernel
theorem dX16_far_88 : decode cX16_far 88 = .ok (.lreturn, 1) := by decide +kernel
theorem dX16_known_0 : decode cX16_known 0 = .ok (.aload_n 0, 1) := by decide +kernel
theorem dX16_known_1 : decode cX16_known 1 = .ok (.iconst 0, 1) := by decide +kernel
theorem dX16_known_2 : decode cX16_known 2 = .ok (.putfield 109, 3) := by decide +kernel
theorem dX16_known_5 : decode cX16_known 5 = .ok (.aload_n 0, 1) := by decide +kernel
theorem dX16_known_6 : decode cX16_known 6 = .ok (.iload_n 1, 1) := by decide +kernel
theorem dX16_known_7 : decode cX16_known 7 = .ok (.invokevirtual 330, 3) := by decide +kernel
theorem dX16_known_10 : decode cX16_known 10 = .ok (.ifCond .eq 20, 3) := by decide +kernel
theorem dX16_known_13 : decode cX16_known 13 = .ok (.iload_n 2, 1) := by decide +kernel
theorem dX16_known_14 : decode cX16_known 14 = .ok (.iconst 0, 1) := by decide +kernel
theorem dX16_known_15 : decode cX16_known 15 = .ok (.aload_n 0, 1) := by decide +kernel
theorem dX16_known_16 : decode cX16_known 16 = .ok (.getfield 274, 3) := by decide +kernel
theorem dX16_known_19 : decode cX16_known 19 = .ok (.getfield 235, 3) := by decide +kernel
theorem dX16_known_22 : decode cX16_known 22 = .ok (.iload_n 1, 1) := by decide +kernel
theorem dX16_known_23 : decode cX16_known 23 = .ok (.iaload, 1) := by decide +kernel
theorem dX16_known_24 : decode cX16_known 24 = .ok (.invokestatic 231, 3) := by decide +kernel
theorem dX16_known_27 : decode cX16_known 27 = .ok (.ifCond .ne 9, 3) := by decide +kernel
theorem dX16_known_30 : decode cX16_known 30 = .ok (.aload_n 0, 1) := by decide +kernel
theorem dX16_known_31 : decode cX16_known 31 = .ok (.iconst 1, 1) := by decide +kernel
theorem dX16_known_32 : decode cX16_known 32 = .ok (.invokevirtual 339, 3) := by decide +kernel
theorem dX16_known_35 : decode cX16_known 35 = .ok (.ireturn, 1) := by decide +kernel
theorem dX16_known_36 : decode cX16_known 36 = .ok (.iload_n 3, 1) := by decide +kernel
theorem dX16_known_37 : decode cX16_known 37 = .ok (.iconst 0, 1) := by decide +kernel
theorem dX16_known_38 : decode cX16_known 38 = .ok (.ldc_w 416, 3) := by decide +kernel
theorem dX16_known_41 : decode cX16_known 41 = .ok (.invokestatic 231, 3) := by decide +kernel
theorem dX16_known_44 : decode cX16_known 44 = .ok (.ifCond .ne 9, 3) := by decide +kernel
theorem dX16_known_47 : decode cX16_known 47 = .ok (.aload_n 0, 1) := by decide +kernel
theorem dX16_known_48 : decode cX16_known 48 = .ok (.iconst 2, 1) := by decide +kernel
theorem dX16_known_49 : decode cX16_known 49 = .ok (.invokevirtual 339, 3) := by decide +kernel
theorem dX16_known_52 : decode cX16_known 52 = .ok (.ireturn, 1) := by decide +kernel
theorem dX16_known_53 : decode cX16_known 53 = .ok (.aload_n 0, 1) := by decide +kernel
theorem dX16_known_54 : decode cX16_known 54 = .ok (.getfield 274, 3) := by decide +kernel
theorem dX16_known_57 : decode cX16_known 57 = .ok (.getfield 235, 3) := by decide +kernel
theorem dX16_known_60 : decode cX16_known 60 = .ok (.iload_n 1, 1) := by decide +kernel
theorem dX16_known_61 : decode cX16_known 61 = .ok (.iaload, 1) := by decide +kernel
theorem dX16_known_62 : decode cX16_known 62 = .ok (.iconst 2, 1) := by decide +kernel
theorem dX16_known_63 : decode cX16_known 63 = .ok (.if_icmp .le 9, 3) := by decide +kernel
theorem dX16_known_66 : decode cX16_known 66 = .ok (.aload_n 0, 1) := by decide +kernel
theorem dX16_known_67 : decode cX16_known 67 = .ok (.iconst 5, 1) := by decide +kernel
theorem dX16_known_68 : decode cX16_known 68 = .ok (.invokevirtual 339, 3) := by decide +kernel
theorem dX16_known_71 : decode cX16_known 71 = .ok (.ireturn, 1) := by decide +kernel
theorem dX16_known_72 : decode cX16_known 72 = .ok (.aload_n 0, 1) := by decide +kernel
theorem dX16_known_73 : decode cX16_known 73 = .ok (.getfield 73, 3) := by decide +kernel
theorem dX16_known_76 : decode cX16_known 76 = .ok (.iload_n 1, 1) := by decide +kernel
theorem dX16_known_77 : decode cX16_known 77 = .ok (.if_icmp .eq 27, 3) := by decide +kernel
theorem dX16_known_80 : decode cX16_known 80 = .ok (.iconst 0, 1) := by decide +kernel
theorem dX16_known_81 : decode cX16_known 81 = .ok (.istore 4, 2) := by decide +kernel
theorem dX16_known_83 : decode cX16_known 83 = .ok (.iload 4, 2) := by decide +kernel
theorem dX16_known_85 : decode cX16_known 85 = .ok (.bipush 10, 2) := by decide +kernel
theorem dX16_known_87 : decode cX16_known 87 = .ok (.if_icmp .ge 17, 3) := by decide +kernel
theorem dX16_known_90 : decode cX16_known 90 = .ok (.aload_n 0, 1) := by decide +kernel
theorem dX16_known_91 : decode cX16_known 91 = .ok (.getfield 76, 3) := by decide +kernel
theorem dX16_known_94 : decode cX16_known 94 = .ok (.iload 4, 2) := by decide +kernel
theorem dX16_known_96 : decode cX16_known 96 = .ok (.iconst 0, 1) := by decide +kernel
theorem dX16_known_97 : decode cX16_known 97 = .ok (.iastore, 1) := by decide +kernel
theorem dX16_known_98 : decode cX16_known 98 = .ok (.iinc 4 1, 3) := by decide +kernel
theorem dX16_known_101 : decode cX16_known 101 = .ok (.goto (-18), 3) := by decide +kernel
theorem dX16_known_104 : decode cX16_known 104 = .ok (.aload_n 0, 1) := by decide +kernel
theorem dX16_known_105 : decode cX16_known 105 = .ok (.iload_n 1, 1) := by decide +kernel
theorem dX16_known_106 : decode cX16_known 106 = .ok (.putfield 73, 3) := by decide +kernel
theorem dX16_known_109 : decode cX16_known 109 = .ok (.aload_n 0, 1) := by decide +kernel
theorem dX16_known_110 : decode cX16_known 110 = .ok (.getfield 76, 3) := by decide +kernel
theorem dX16_known_113 : decode cX16_known 113 = .ok (.iload_n 2, 1) := by decide +kernel
theorem dX16_known_114 : decode cX16_known 114 = .ok (.iload_n 3, 1) := by decide +kernel
theorem dX16_known_115 : decode cX16_known 115 = .ok (.iastore, 1) := by decide +kernel
theorem dX16_known_116 : decode cX16_known 116 = .ok (.aload_n 0, 1) := by decide +kernel
theorem dX16_known_117 : decode cX16_known 117 = .ok (.invokevirtual 342, 3) := by decide +kernel
theorem dX16_known_120 : decode cX16_known 120 = .ok (.ireturn, 1) := by decide +kernel
theorem dX16_common_0 : decode cX16_common 0 = .ok (.lload_n 0, 1) := by decide +kernel
theorem dX16_common_1 : decode cX16_common 1 = .ok (.lstore 4, 2) := by decide +kernel
theorem dX16_common_3 : decode cX16_common 3 = .ok (.lload_n 2, 1) := by decide +kernel
theorem dX16_common_4 : decode cX16_common 4 = .ok (.lstore 6, 2) := by decide +kernel
theorem dX16_common_6 : decode cX16_common 6 = .ok (.lload 4, 2) := by decide +kernel
theorem dX16_common_8 : decode cX16_common 8 = .ok (.lconst 0, 1) := by decide +kernel
theorem dX16_common_9 : decode cX16_common 9 = .ok (.lcmp, 1) := by decide +kernel
theorem dX16_common_10 : decode cX16_common 10 = .ok (.ifCond .le 21, 3) := by decide +kernel
theorem dX16_common_13 : decode cX16_common 13 = .ok (.lload 6, 2) := by decide +kernel
theorem dX16_common_15 : decode cX16_common 15 = .ok (.lload 4, 2) := by decide +kernel
theorem dX16_common_17 : decode cX16_common 17 = .ok (.lrem, 1) := by decide +kernel
theorem dX16_common_18 : decode cX16_common 18 = .ok (.lstore 8, 2) := by decide +kernel
theorem dX16_common_20 : decode cX16_common 20 = .ok (.lload 4, 2) := by decide +kernel
theorem dX16_common_22 : decode cX16_common 22 = .ok (.lstore 6, 2) := by decide +kernel
theorem dX16_common_24 : decode cX16_common 24 = .ok (.lload 8, 2) := by decide +kernel
theorem dX16_common_26 : decode cX16_common 26 = .ok (.lstore 4, 2) := by decide +kernel
theorem dX16_common_28 : decode cX16_common 28 = .ok (.goto (-22), 3) := by decide +kernel
theorem dX16_common_31 : decode cX16_common 31 = .ok (.lload 6, 2) := by decide +kernel
theorem dX16_common_33 : decode cX16_common 33 = .ok (.lreturn, 1) := by decide +kernel
theorem dX16_agreed_0 : decode cX16_agreed 0 = .ok (.aload_n 0, 1) := by decide +kernel
theorem dX16_agreed_1 : decode cX16_agreed 1 = .ok (.iconst 0, 1) := by decide +kernel
theorem dX16_agreed_2 : decode cX16_agreed 2 = .ok (.putfield 109, 3) := by decide +kernel
theorem dX16_agreed_5 : decode cX16_agreed 5 = .ok (.aload_n 0, 1) := by decide +kernel
theorem dX16_agreed_6 : decode cX16_agreed 6 = .ok (.iload_n 1, 1) := by decide +kernel
theorem dX16_agreed_7 : decode cX16_agreed 7 = .ok (.iload_n 2, 1) := by decide +kernel
theorem dX16_agreed_8 : decode cX16_agreed 8 = .ok (.iload_n 3, 1) := by decide +kernel
theorem dX16_agreed_9 : decode cX16_agreed 9 = .ok (.invokevirtual 393, 3) := by decide +kernel
theorem dX16_agreed_12 : decode cX16_agreed 12 = .ok (.ifCond .ne 9, 3) := by decide +kernel
theorem dX16_agreed_15 : decode cX16_agreed 15 = .ok (.aload_n 0, 1) := by decide +kernel
theorem dX16_agreed_16 : decode cX16_agreed 16 = .ok (.iconst 1, 1) := by decide +kernel
theorem dX16_agreed_17 : decode cX16_agreed 17 = .ok (.invokevirtual 396, 3) := by decide +kernel
theorem dX16_agreed_20 : decode cX16_agreed 20 = .ok (.lreturn, 1) := by decide +kernel
theorem dX16_agreed_21 : decode cX16_agreed 21 = .ok (.aload_n 0, 1) := by decide +kernel
theorem dX16_agreed_22 : decode cX16_agreed 22 = .ok (.getfield 73, 3) := by decide +kernel
theorem dX16_agreed_25 : decode cX16_agreed 25 = .ok (.iconst (-1), 1) := by decide +kernel
theorem dX16_agreed_26 : decode cX16_agreed 26 = .ok (.if_icmp .ne 9, 3) := by decide +kernel
theorem dX16_agreed_29 : decode cX16_agreed 29 = .ok (.aload_n 0, 1) := by decide +kernel
theorem dX16_agreed_30 : decode cX16_agreed 30 = .ok (.iconst 5, 1) := by decide +kernel
theorem dX16_agreed_31 : decode cX16_agreed 31 = .ok (.invokevirtual 396, 3) := by decide +kernel
theorem dX16_agreed_34 : decode cX16_agreed 34 = .ok (.lreturn, 1) := by decide +kernel
theorem dX16_agreed_35 : decode cX16_agreed 35 = .ok (.aload_n 0, 1) := by decide +kernel
theorem dX16_agreed_36 : decode cX16_agreed 36 = .ok (.getfield 15, 3) := by decide +kernel
theorem dX16_agreed_39 : decode cX16_agreed 39 = .ok (.iload_n 1, 1) := by decide +kernel
theorem dX16_agreed_40 : decode cX16_agreed 40 = .ok (.aaload, 1) := by decide +kernel
theorem dX16_agreed_41 : decode cX16_agreed 41 = .ok (.astore 5, 2) := by decide +kernel
theorem dX16_agreed_43 : decode cX16_agreed 43 = .ok (.lconst 0, 1) := by decide +kernel
theorem dX16_agreed_44 : decode cX16_agreed 44 = .ok (.lstore 6, 2) := by decide +kernel
theorem dX16_agreed_46 : decode cX16_agreed 46 = .ok (.lconst 1, 1) := by decide +kernel
theorem dX16_agreed_47 : decode cX16_agreed 47 = .ok (.lstore 8, 2) := by decide +kernel
theorem dX16_agreed_49 : decode cX16_agreed 49 = .ok (.iconst 0, 1) := by decide +kernel
theorem dX16_agreed_50 : decode cX16_agreed 50 = .ok (.istore 10, 2) := by decide +kernel
theorem dX16_agreed_52 : decode cX16_agreed 52 = .ok (.iload 10, 2) := by decide +kernel
theorem dX16_agreed_54 : decode cX16_agreed 54 = .ok (.aload_n 0, 1) := by decide +kernel
theorem dX16_agreed_55 : decode cX16_agreed 55 = .ok (.getfield 274, 3) := by decide +kernel
theorem dX16_agreed_58 : decode cX16_agreed 58 = .ok (.getfield 235, 3) := by decide +kernel
theorem dX16_agreed_61 : decode cX16_agreed 61 = .ok (.aload_n 0, 1) := by decide +kernel
theorem dX16_agreed_62 : decode cX16_agreed 62 = .ok (.getfield 73, 3) := by decide +kernel
theorem dX16_agreed_65 : decode cX16_agreed 65 = .ok (.iaload, 1) := by decide +kernel
theorem dX16_agreed_66 : decode cX16_agreed 66 = .ok (.if_icmp .gt 212, 3) := by decide +kernel
theorem dX16_agreed_69 : decode cX16_agreed 69 = .ok (.lconst 0, 1) := by decide +kernel
theorem dX16_agreed_70 : decode cX16_agreed 70 = .ok (.lstore 11, 2) := by decide +kernel
theorem dX16_agreed_72 : decode cX16_agreed 72 = .ok (.lconst 0, 1) := by decide +kernel
theorem dX16_agreed_73 : decode cX16_agreed 73 = .ok (.lstore 13, 2) := by decide +kernel
theorem dX16_agreed_75 : decode cX16_agreed 75 = .ok (.iconst 0, 1) := by decide +kernel
theorem dX16_agreed_76 : decode cX16_agreed 76 = .ok (.istore 15, 2) := by decide +kernel
theorem dX16_agreed_78 : decode cX16_agreed 78 = .ok (.iload 15, 2) := by decide +kernel
theorem dX16_agreed_80 : decode cX16_agreed 80 = .ok (.aload_n 0, 1) := by decide +kernel
theorem dX16_agreed_81 : decode cX16_agreed 81 = .ok (.getfield 308, 3) := by decide +kernel
theorem dX16_agreed_84 : decode cX16_agreed 84 = .ok (.if_icmp .ge 149, 3) := by decide +kernel
theorem dX16_agreed_87 : decode cX16_agreed 87 = .ok (.aload_n 0, 1) := by decide +kernel
theorem dX16_agreed_88 : decode cX16_agreed 88 = .ok (.aload 5, 2) := by decide +kernel
theorem dX16_agreed_90 : decode cX16_agreed 90 = .ok (.iload 15, 2) := by decide +kernel
theorem dX16_agreed_92 : decode cX16_agreed 92 = .ok (.iload_n 2, 1) := by decide +kernel
theorem dX16_agreed_93 : decode cX16_agreed 93 = .ok (.iload_n 3, 1) := by decide +kernel
theorem dX16_agreed_94 : decode cX16_agreed 94 = .ok (.aload_n 0, 1) := by decide +kernel
theorem dX16_agreed_95 : decode cX16_agreed 95 = .ok (.getfield 314, 3) := by decide +kernel
theorem dX16_agreed_98 : decode cX16_agreed 98 = .ok (.iconst 0, 1) := by decide +kernel
theorem dX16_agreed_99 : decode cX16_agreed 99 = .ok (.invokevirtual 389, 3) := by decide +kernel
theorem dX16_agreed_102 : decode cX16_agreed 102 = .ok (.istore 16, 2) := by decide +kernel
theorem dX16_agreed_104 : decode cX16_agreed 104 = .ok (.aload_n 0, 1) := by decide +kernel
theorem dX16_agreed_105 : decode cX16_agreed 105 = .ok (.iload 15, 2) := by decide +kernel
theorem dX16_agreed_107 : decode cX16_agreed 107 = .ok (.aload_n 0, 1) := by decide +kernel
theorem dX16_agreed_108 : decode cX16_agreed 108 = .ok (.getfield 314, 3) := by decide +kernel
theorem dX16_agreed_111 : decode cX16_agreed 111 = .ok (.invokevirtual 353, 3) := by decide +kernel
theorem dX16_agreed_114 : decode cX16_agreed 114 = .ok (.ifCond .ne 6, 3) := by decide +kernel
theorem dX16_agreed_117 : decode cX16_agreed 117 = .ok (.goto 110, 3) := by decide +kernel
theorem dX16_agreed_120 : decode cX16_agreed 120 = .ok (.aload_n 0, 1) := by decide +kernel
theorem dX16_agreed_121 : decode cX16_agreed 121 = .ok (.iload 15, 2) := by decide +kernel
theorem dX16_agreed_123 : decode cX16_agreed 123 = .ok (.aload_n 0, 1) := by decide +kernel
theorem dX16_agreed_124 : decode cX16_agreed 124 = .ok (.getfield 314, 3) := by decide +kernel
theorem dX16_agreed_127 : decode cX16_agreed 127 = .ok (.iconst 0, 1) := by decide +kernel
theorem dX16_agreed_128 : decode cX16_agreed 128 = .ok (.aload_n 0, 1) := by decide +kernel
theorem dX16_agreed_129 : decode cX16_agreed 129 = .ok (.getfield 58, 3) := by decide +kernel
theorem dX16_agreed_132 : decode cX16_agreed 132 = .ok (.invokevirtual 349, 3) := by decide +kernel
theorem dX16_agreed_135 : decode cX16_agreed 135 = .ok (.aload_n 0, 1) := by decide +kernel
theorem dX16_agreed_136 : decode cX16_agreed 136 = .ok (.getfield 58, 3) := by decide +kernel
theorem dX16_agreed_139 : decode cX16_agreed 139 = .ok (.aload_n 0, 1) := by decide +kernel
theorem dX16_agreed_140 : decode cX16_agreed 140 = .ok (.getfield 73, 3) := by decide +kernel
theorem dX16_agreed_143 : decode cX16_agreed 143 = .ok (.iaload, 1) := by decide +kernel
theorem dX16_agreed_144 : decode cX16_agreed 144 = .ok (.iload 10, 2) := by decide +kernel
theorem dX16_agreed_146 : decode cX16_agreed 146 = .ok (.if_icmp .ne 81, 3) := by decide +kernel
theorem dX16_agreed_149 : decode cX16_agreed 149 = .ok (.aload_n 0, 1) := by decide +kernel
theorem dX16_agreed_150 : decode cX16_agreed 150 = .ok (.getfield 274, 3) := by decide +kernel
theorem dX16_agreed_153 : decode cX16_agreed 153 = .ok (.aload_n 0, 1) := by decide +kernel
theorem dX16_agreed_154 : decode cX16_agreed 154 = .ok (.getfield 58, 3) := by decide +kernel
theorem dX16_agreed_157 : decode cX16_agreed 157 = .ok (.invokevirtual 356, 3) := by decide +kernel
theorem dX16_agreed_160 : decode cX16_agreed 160 = .ok (.iconst (-1), 1) := by decide +kernel
theorem dX16_agreed_161 : decode cX16_agreed 161 = .ok (.if_icmp .eq 6, 3) := by decide +kernel
theorem dX16_agreed_164 : decode cX16_agreed 164 = .ok (.goto 63, 3) := by decide +kernel
theorem dX16_agreed_167 : decode cX16_agreed 167 = .ok (.lload 13, 2) := by decide +kernel
theorem dX16_agreed_169 : decode cX16_agreed 169 = .ok (.aload_n 0, 1) := by decide +kernel
theorem dX16_agreed_170 : decode cX16_agreed 170 = .ok (.getfield 55, 3) := by decide +kernel
theorem dX16_agreed_173 : decode cX16_agreed 173 = .ok (.iload 15, 2) := by decide +kernel
theorem dX16_agreed_175 : decode cX16_agreed 175 = .ok (.iaload, 1) := by decide +kernel
theorem dX16_agreed_176 : decode cX16_agreed 176 = .ok (.i2l, 1) := by decide +kernel
theorem dX16_agreed_177 : decode cX16_agreed 177 = .ok (.ladd, 1) := by decide +kernel
theorem dX16_agreed_178 : decode cX16_agreed 178 = .ok (.lstore 13, 2) := by decide +kernel
theorem dX16_agreed_180 : decode cX16_agreed 180 = .ok (.lload 11, 2) := by decide +kernel
theorem dX16_agreed_182 : decode cX16_agreed 182 = .ok (.iload 16, 2) := by decide +kernel
theorem dX16_agreed_184 : decode cX16_agreed 184 = .ok (.ifCond .eq 39, 3) := by decide +kernel
theorem dX16_agreed_187 : decode cX16_agreed 187 = .ok (.aload_n 0, 1) := by decide +kernel
theorem dX16_agreed_188 : decode cX16_agreed 188 = .ok (.getfield 55, 3) := by decide +kernel
theorem dX16_agreed_191 : decode cX16_agreed 191 = .ok (.iload 15, 2) := by decide +kernel
theorem dX16_agreed_193 : decode cX16_agreed 193 = .ok (.iaload, 1) := by decide +kernel
theorem dX16_agreed_194 : decode cX16_agreed 194 = .ok (.i2l, 1) := by decide +kernel
theorem dX16_agreed_195 : decode cX16_agreed 195 = .ok (.aload 5, 2) := by decide +kernel
theorem dX16_agreed_197 : decode cX16_agreed 197 = .ok (.getfield 277, 3) := by decide +kernel
theorem dX16_agreed_200 : decode cX16_agreed 200 = .ok (.iconst (-1), 1) := by decide +kernel
theorem dX16_agreed_201 : decode cX16_agreed 201 = .ok (.if_icmp .ne 7, 3) := by decide +kernel
theorem dX16_agreed_204 : decode cX16_agreed 204 = .ok (.iconst 1, 1) := by decide +kernel
theorem dX16_agreed_205 : decode cX16_agreed 205 = .ok (.goto 13, 3) := by decide +kernel
theorem dX16_agreed_208 : decode cX16_agreed 208 = .ok (.aload_n 0, 1) := by decide +kernel
theorem dX16_agreed_209 : decode cX16_agreed 209 = .ok (.getfield 58, 3) := by decide +kernel
theorem dX16_agreed_212 : decode cX16_agreed 212 = .ok (.aload 5, 2) := by decide +kernel
theorem dX16_agreed_214 : decode cX16_agreed 214 = .ok (.getfield 277, 3) := by decide +kernel
theorem dX16_agreed_217 : decode cX16_agreed 217 = .ok (.iaload, 1) := by decide +kernel
theorem dX16_agreed_218 : decode cX16_agreed 218 = .ok (.i2l, 1) := by decide +kernel
theorem dX16_agreed_219 : decode cX16_agreed 219 = .ok (.lmul, 1) := by decide +kernel
theorem dX16_agreed_220 : decode cX16_agreed 220 = .ok (.goto 4, 3) := by decide +kernel
theorem dX16_agreed_223 : decode cX16_agreed 223 = .ok (.lconst 0, 1) := by decide +kernel
theorem dX16_agreed_224 : decode cX16_agreed 224 = .ok (.ladd, 1) := by decide +kernel
theorem dX16_agreed_225 : decode cX16_agreed 225 = .ok (.lstore 11, 2) := by decide +kernel
theorem dX16_agreed_227 : decode cX16_agreed 227 = .ok (.iinc 15 1, 3) := by decide +kernel
theorem dX16_agreed_230 : decode cX16_agreed 230 = .ok (.goto (-152), 3) := by decide +kernel
theorem dX16_agreed_233 : decode cX16_agreed 233 = .ok (.lload 13, 2) := by decide +kernel
theorem dX16_agreed_235 : decode cX16_agreed 235 = .ok (.lconst 0, 1) := by decide +kernel
theorem dX16_agreed_236 : decode cX16_agreed 236 = .ok (.lcmp, 1) := by decide +kernel
theorem dX16_agreed_237 : decode cX16_agreed 237 = .ok (.ifCond .ne 6, 3) := by decide +kernel
theorem dX16_agreed_240 : decode cX16_agreed 240 = .ok (.goto 32, 3) := by decide +kernel
theorem dX16_agreed_243 : decode cX16_agreed 243 = .ok (.lload 6, 2) := by decide +kernel
theorem dX16_agreed_245 : decode cX16_agreed 245 = .ok (.lload 13, 2) := by decide +kernel
theorem dX16_agreed_247 : decode cX16_agreed 247 = .ok (.lmul, 1) := by decide +kernel
theorem dX16_agreed_248 : decode cX16_agreed 248 = .ok (.lload 11, 2) := by decide +kernel
theorem dX16_agreed_250 : decode cX16_agreed 250 = .ok (.aload_n 0, 1) := by decide +kernel
theorem dX16_agreed_251 : decode cX16_agreed 251 = .ok (.getfield 76, 3) := by decide +kernel
theorem dX16_agreed_254 : decode cX16_agreed 254 = .ok (.iload 10, 2) := by decide +kernel
theorem dX16_agreed_256 : decode cX16_agreed 256 = .ok (.iaload, 1) := by decide +kernel
theorem dX16_agreed_257 : decode cX16_agreed 257 = .ok (.i2l, 1) := by decide +kernel
theorem dX16_agreed_258 : decode cX16_agreed 258 = .ok (.lmul, 1) := by decide +kernel
theorem dX16_agreed_259 : decode cX16_agreed 259 = .ok (.lload 8, 2) := by decide +kernel
theorem dX16_agreed_261 : decode cX16_agreed 261 = .ok (.lmul, 1) := by decide +kernel
theorem dX16_agreed_262 : decode cX16_agreed 262 = .ok (.ladd, 1) := by decide +kernel
theorem dX16_agreed_263 : decode cX16_agreed 263 = .ok (.lstore 6, 2) := by decide +kernel
theorem dX16_agreed_265 : decode cX16_agreed 265 = .ok (.lload 8, 2) := by decide +kernel
theorem dX16_agreed_267 : decode cX16_agreed 267 = .ok (.lload 13, 2) := by decide +kernel
theorem dX16_agreed_269 : decode cX16_agreed 269 = .ok (.lmul, 1) := by decide +kernel
theorem dX16_agreed_270 : decode cX16_agreed 270 = .ok (.lstore 8, 2) := by decide +kernel
theorem dX16_agreed_272 : decode cX16_agreed 272 = .ok (.iinc 10 1, 3) := by decide +kernel
theorem dX16_agreed_275 : decode cX16_agreed 275 = .ok (.goto (-223), 3) := by decide +kernel
theorem dX16_agreed_278 : decode cX16_agreed 278 = .ok (.lload 6, 2) := by decide +kernel
theorem dX16_agreed_280 : decode cX16_agreed 280 = .ok (.lload 8, 2) := by decide +kernel
theorem dX16_agreed_282 : decode cX16_agreed 282 = .ok (.invokestatic 417, 3) := by decide +kernel
theorem dX16_agreed_285 : decode cX16_agreed 285 = .ok (.lstore 10, 2) := by decide +kernel
theorem dX16_agreed_287 : decode cX16_agreed 287 = .ok (.aload_n 0, 1) := by decide +kernel
theorem dX16_agreed_288 : decode cX16_agreed 288 = .ok (.iload 4, 2) := by decide +kernel
theorem dX16_agreed_290 : decode cX16_agreed 290 = .ok (.ifCond .eq 11, 3) := by decide +kernel
theorem dX16_agreed_293 : decode cX16_agreed 293 = .ok (.lload 8, 2) := by decide +kernel
theorem dX16_agreed_295 : decode cX16_agreed 295 = .ok (.lload 10, 2) := by decide +kernel
theorem dX16_agreed_297 : decode cX16_agreed 297 = .ok (.ldiv, 1) := by decide +kernel
theorem dX16_agreed_298 : decode cX16_agreed 298 = .ok (.goto 8, 3) := by decide +kernel
theorem dX16_agreed_301 : decode cX16_agreed 301 = .ok (.lload 6, 2) := by decide +kernel
theorem dX16_agreed_303 : decode cX16_agreed 303 = .ok (.lload 10, 2) := by decide +kernel
theorem dX16_agreed_305 : decode cX16_agreed 305 = .ok (.ldiv, 1) := by decide +kernel
theorem dX16_agreed_306 : decode cX16_agreed 306 = .ok (.invokevirtual 404, 3) := by decide +kernel
theorem dX16_agreed_309 : decode cX16_agreed 309 = .ok (.lreturn, 1) := by decide +kernel
theorem dX16_group_0 : decode cX16_group 0 = .ok (.aload_n 0, 1) := by decide +kernel
theorem dX16_group_1 : decode cX16_group 1 = .ok (.iconst 0, 1) := by decide +kernel
theorem dX16_group_2 : decode cX16_group 2 = .ok (.putfield 109, 3) := by decide +kernel
theorem dX16_group_5 : decode cX16_group 5 = .ok (.aload_n 0, 1) := by decide +kernel
theorem dX16_group_6 : decode cX16_group 6 = .ok (.iload_n 1, 1) := by decide +kernel
theorem dX16_group_7 : decode cX16_group 7 = .ok (.invokevirtual 330, 3) := by decide +kernel
theorem dX16_group_10 : decode cX16_group 10 = .ok (.ifCond .eq 20, 3) := by decide +kernel
theorem dX16_group_13 : decode cX16_group 13 = .ok (.iload_n 2, 1) := by decide +kernel
theorem dX16_group_14 : decode cX16_group 14 = .ok (.iconst 0, 1) := by decide +kernel
theorem dX16_group_15 : decode cX16_group 15 = .ok (.aload_n 0, 1) := by decide +kernel
theorem dX16_group_16 : decode cX16_group 16 = .ok (.getfield 274, 3) := by decide +kernel
theorem dX16_group_19 : decode cX16_group 19 = .ok (.getfield 235, 3) := by decide +kernel
theorem dX16_group_22 : decode cX16_group 22 = .ok (.iload_n 1, 1) := by decide +kernel
theorem dX16_group_23 : decode cX16_group 23 = .ok (.iaload, 1) := by decide +kernel
theorem dX16_group_24 : decode cX16_group 24 = .ok (.invokestatic 231, 3) := by decide +kernel
theorem dX16_group_27 : decode cX16_group 27 = .ok (.ifCond .ne 9, 3) := by decide +kernel
theorem dX16_group_30 : decode cX16_group 30 = .ok (.aload_n 0, 1) := by decide +kernel
theorem dX16_group_31 : decode cX16_group 31 = .ok (.iconst 1, 1) := by decide +kernel
theorem dX16_group_32 : decode cX16_group 32 = .ok (.invokevirtual 339, 3) := by decide +kernel
theorem dX16_group_35 : decode cX16_group 35 = .ok (.ireturn, 1) := by decide +kernel
theorem dX16_group_36 : decode cX16_group 36 = .ok (.iload_n 3, 1) := by decide +kernel
theorem dX16_group_37 : decode cX16_group 37 = .ok (.iconst 0, 1) := by decide +kernel
theorem dX16_group_38 : decode cX16_group 38 = .ok (.bipush 9, 2) := by decide +kernel
theorem dX16_group_40 : decode cX16_group 40 = .ok (.invokestatic 231, 3) := by decide +kernel
theorem dX16_group_43 : decode cX16_group 43 = .ok (.ifCond .ne 9, 3) := by decide +kernel
theorem dX16_group_46 : decode cX16_group 46 = .ok (.aload_n 0, 1) := by decide +kernel
theorem dX16_group_47 : decode cX16_group 47 = .ok (.iconst 2, 1) := by decide +kernel
theorem dX16_group_48 : decode cX16_group 48 = .ok (.invokevirtual 339, 3) := by decide +kernel
theorem dX16_group_51 : decode cX16_group 51 = .ok (.ireturn, 1) := by decide +kernel
theorem dX16_group_52 : decode cX16_group 52 = .ok (.aload_n 0, 1) := by decide +kernel
theorem dX16_group_53 : decode cX16_group 53 = .ok (.getfield 79, 3) := by decide +kernel
theorem dX16_group_56 : decode cX16_group 56 = .ok (.bipush 10, 2) := by decide +kernel
theorem dX16_group_58 : decode cX16_group 58 = .ok (.iload_n 1, 1) := by decide +kernel
theorem dX16_group_59 : decode cX16_group 59 = .ok (.imul, 1) := by decide +kernel
theorem dX16_group_60 : decode cX16_group 60 = .ok (.iload_n 2, 1) := by decide +kernel
theorem dX16_group_61 : decode cX16_group 61 = .ok (.iadd, 1) := by decide +kernel
theorem dX16_group_62 : decode cX16_group 62 = .ok (.iload_n 3, 1) := by decide +kernel
theorem dX16_group_63 : decode cX16_group 63 = .ok (.iastore, 1) := by decide +kernel
theorem dX16_group_64 : decode cX16_group 64 = .ok (.aload_n 0, 1) := by decide +kernel
theorem dX16_group_65 : decode cX16_group 65 = .ok (.invokevirtual 342, 3) := by decide +kernel
theorem dX16_group_68 : decode cX16_group 68 = .ok (.ireturn, 1) := by decide +kernel
theorem dX16_thousandths_0 : decode cX16_thousandths 0 = .ok (.iconst 0, 1) := by decide +kernel
theorem dX16_thousandths_1 : decode cX16_thousandths 1 = .ok (.istore 5, 2) := by decide +kernel
theorem dX16_thousandths_3 : decode cX16_thousandths 3 = .ok (.iconst 0, 1) := by decide +kernel
theorem dX16_thousandths_4 : decode cX16_thousandths 4 = .ok (.istore 6, 2) := by decide +kernel
theorem dX16_thousandths_6 : decode cX16_thousandths 6 = .ok (.iconst 0, 1) := by decide +kernel
theorem dX16_thousandths_7 : decode cX16_thousandths 7 = .ok (.istore 7, 2) := by decide +kernel
theorem dX16_thousandths_9 : decode cX16_thousandths 9 = .ok (.iload 7, 2) := by decide +kernel
theorem dX16_thousandths_11 : decode cX16_thousandths 11 = .ok (.aload_n 0, 1) := by decide +kernel
theorem dX16_thousandths_12 : decode cX16_thousandths 12 = .ok (.getfield 308, 3) := by decide +kernel
theorem dX16_thousandths_15 : decode cX16_thousandths 15 = .ok (.if_icmp .ge 172, 3) := by decide +kernel
theorem dX16_thousandths_18 : decode cX16_thousandths 18 = .ok (.aload_n 0, 1) := by decide +kernel
theorem dX16_thousandths_19 : decode cX16_thousandths 19 = .ok (.iload 7, 2) := by decide +kernel
theorem dX16_thousandths_21 : decode cX16_thousandths 21 = .ok (.aload_n 0, 1) := by decide +kernel
theorem dX16_thousandths_22 : decode cX16_thousandths 22 = .ok (.getfield 314, 3) := by decide +kernel
theorem dX16_thousandths_25 : decode cX16_thousandths 25 = .ok (.invokevirtual 353, 3) := by decide +kernel
theorem dX16_thousandths_28 : decode cX16_thousandths 28 = .ok (.ifCond .ne 6, 3) := by decide +kernel
theorem dX16_thousandths_31 : decode cX16_thousandths 31 = .ok (.goto 150, 3) := by decide +kernel
theorem dX16_thousandths_34 : decode cX16_thousandths 34 = .ok (.aload_n 0, 1) := by decide +kernel
theorem dX16_thousandths_35 : decode cX16_thousandths 35 = .ok (.iload 7, 2) := by decide +kernel
theorem dX16_thousandths_37 : decode cX16_thousandths 37 = .ok (.aload_n 0, 1) := by decide +kernel
theorem dX16_thousandths_38 : decode cX16_thousandths 38 = .ok (.getfield 314, 3) := by decide +kernel
theorem dX16_thousandths_41 : decode cX16_thousandths 41 = .ok (.iconst 0, 1) := by decide +kernel
theorem dX16_thousandths_42 : decode cX16_thousandths 42 = .ok (.aload_n 0, 1) := by decide +kernel
theorem dX16_thousandths_43 : decode cX16_thousandths 43 = .ok (.getfield 58, 3) := by decide +kernel
theorem dX16_thousandths_46 : decode cX16_thousandths 46 = .ok (.invokevirtual 349, 3) := by decide +kernel
theorem dX16_thousandths_49 : decode cX16_thousandths 49 = .ok (.aload_n 0, 1) := by decide +kernel
theorem dX16_thousandths_50 : decode cX16_thousandths 50 = .ok (.getfield 58, 3) := by decide +kernel
theorem dX16_thousandths_53 : decode cX16_thousandths 53 = .ok (.iload_n 2, 1) := by decide +kernel
theorem dX16_thousandths_54 : decode cX16_thousandths 54 = .ok (.iaload, 1) := by decide +kernel
theorem dX16_thousandths_55 : decode cX16_thousandths 55 = .ok (.istore 8, 2) := by decide +kernel
theorem dX16_thousandths_57 : decode cX16_thousandths 57 = .ok (.iload 8, 2) := by decide +kernel
theorem dX16_thousandths_59 : decode cX16_thousandths 59 = .ok (.iconst (-1), 1) := by decide +kernel
theorem dX16_thousandths_60 : decode cX16_thousandths 60 = .ok (.if_icmp .eq 121, 3) := by decide +kernel
theorem dX16_thousandths_63 : decode cX16_thousandths 63 = .ok (.aload_n 0, 1) := by decide +kernel
theorem dX16_thousandths_64 : decode cX16_thousandths 64 = .ok (.getfield 274, 3) := by decide +kernel
theorem dX16_thousandths_67 : decode cX16_thousandths 67 = .ok (.aload_n 0, 1) := by decide +kernel
theorem dX16_thousandths_68 : decode cX16_thousandths 68 = .ok (.getfield 58, 3) := by decide +kernel
theorem dX16_thousandths_71 : decode cX16_thousandths 71 = .ok (.invokevirtual 356, 3) := by decide +kernel
theorem dX16_thousandths_74 : decode cX16_thousandths 74 = .ok (.iconst (-1), 1) := by decide +kernel
theorem dX16_thousandths_75 : decode cX16_thousandths 75 = .ok (.if_icmp .eq 6, 3) := by decide +kernel
theorem dX16_thousandths_78 : decode cX16_thousandths 78 = .ok (.goto 103, 3) := by decide +kernel
theorem dX16_thousandths_81 : decode cX16_thousandths 81 = .ok (.iload 4, 2) := by decide +kernel
theorem dX16_thousandths_83 : decode cX16_thousandths 83 = .ok (.ifCond .eq 43, 3) := by decide +kernel
theorem dX16_thousandths_86 : decode cX16_thousandths 86 = .ok (.iload 8, 2) := by decide +kernel
theorem dX16_thousandths_88 : decode cX16_thousandths 88 = .ok (.iload_n 3, 1) := by decide +kernel
theorem dX16_thousandths_89 : decode cX16_thousandths 89 = .ok (.if_icmp .eq 33, 3) := by decide +kernel
theorem dX16_thousandths_92 : decode cX16_thousandths 92 = .ok (.aload_n 0, 1) := by decide +kernel
theorem dX16_thousandths_93 : decode cX16_thousandths 93 = .ok (.getfield 79, 3) := by decide +kernel
theorem dX16_thousandths_96 : decode cX16_thousandths 96 = .ok (.bipush 10, 2) := by decide +kernel
theorem dX16_thousandths_98 : decode cX16_thousandths 98 = .ok (.iload_n 2, 1) := by decide +kernel
theorem dX16_thousandths_99 : decode cX16_thousandths 99 = .ok (.imul, 1) := by decide +kernel
theorem dX16_thousandths_100 : decode cX16_thousandths 100 = .ok (.iload 8, 2) := by decide +kernel
theorem dX16_thousandths_102 : decode cX16_thousandths 102 = .ok (.iadd, 1) := by decide +kernel
theorem dX16_thousandths_103 : decode cX16_thousandths 103 = .ok (.iaload, 1) := by decide +kernel
theorem dX16_thousandths_104 : decode cX16_thousandths 104 = .ok (.aload_n 0, 1) := by decide +kernel
theorem dX16_thousandths_105 : decode cX16_thousandths 105 = .ok (.getfield 79, 3) := by decide +kernel
theorem dX16_thousandths_108 : decode cX16_thousandths 108 = .ok (.bipush 10, 2) := by decide +kernel
theorem dX16_thousandths_110 : decode cX16_thousandths 110 = .ok (.iload_n 2, 1) := by decide +kernel
theorem dX16_thousandths_111 : decode cX16_thousandths 111 = .ok (.imul, 1) := by decide +kernel
theorem dX16_thousandths_112 : decode cX16_thousandths 112 = .ok (.iload_n 3, 1) := by decide +kernel
theorem dX16_thousandths_113 : decode cX16_thousandths 113 = .ok (.iadd, 1) := by decide +kernel
theorem dX16_thousandths_114 : decode cX16_thousandths 114 = .ok (.iaload, 1) := by decide +kernel
theorem dX16_thousandths_115 : decode cX16_thousandths 115 = .ok (.if_icmp .ne 7, 3) := by decide +kernel
theorem dX16_thousandths_118 : decode cX16_thousandths 118 = .ok (.iconst 1, 1) := by decide +kernel
theorem dX16_thousandths_119 : decode cX16_thousandths 119 = .ok (.goto 18, 3) := by decide +kernel
theorem dX16_thousandths_122 : decode cX16_thousandths 122 = .ok (.iconst 0, 1) := by decide +kernel
theorem dX16_thousandths_123 : decode cX16_thousandths 123 = .ok (.goto 14, 3) := by decide +kernel
theorem dX16_thousandths_126 : decode cX16_thousandths 126 = .ok (.iload 8, 2) := by decide +kernel
theorem dX16_thousandths_128 : decode cX16_thousandths 128 = .ok (.iload_n 3, 1) := by decide +kernel
theorem dX16_thousandths_129 : decode cX16_thousandths 129 = .ok (.if_icmp .ne 7, 3) := by decide +kernel
theorem dX16_thousandths_132 : decode cX16_thousandths 132 = .ok (.iconst 1, 1) := by decide +kernel
theorem dX16_thousandths_133 : decode cX16_thousandths 133 = .ok (.goto 4, 3) := by decide +kernel
theorem dX16_thousandths_136 : decode cX16_thousandths 136 = .ok (.iconst 0, 1) := by decide +kernel
theorem dX16_thousandths_137 : decode cX16_thousandths 137 = .ok (.istore 9, 2) := by decide +kernel
theorem dX16_thousandths_139 : decode cX16_thousandths 139 = .ok (.iload 9, 2) := by decide +kernel
theorem dX16_thousandths_141 : decode cX16_thousandths 141 = .ok (.ifCond .ne 6, 3) := by decide +kernel
theorem dX16_thousandths_144 : decode cX16_thousandths 144 = .ok (.goto 37, 3) := by decide +kernel
theorem dX16_thousandths_147 : decode cX16_thousandths 147 = .ok (.iinc 5 1, 3) := by decide +kernel
theorem dX16_thousandths_150 : decode cX16_thousandths 150 = .ok (.iload 6, 2) := by decide +kernel
theorem dX16_thousandths_152 : decode cX16_thousandths 152 = .ok (.aload_n 1, 1) := by decide +kernel
theorem dX16_thousandths_153 : decode cX16_thousandths 153 = .ok (.getfield 284, 3) := by decide +kernel
theorem dX16_thousandths_156 : decode cX16_thousandths 156 = .ok (.ifnull 17, 3) := by decide +kernel
theorem dX16_thousandths_159 : decode cX16_thousandths 159 = .ok (.aload_n 1, 1) := by decide +kernel
theorem dX16_thousandths_160 : decode cX16_thousandths 160 = .ok (.getfield 284, 3) := by decide +kernel
theorem dX16_thousandths_163 : decode cX16_thousandths 163 = .ok (.aload_n 0, 1) := by decide +kernel
theorem dX16_thousandths_164 : decode cX16_thousandths 164 = .ok (.getfield 58, 3) := by decide +kernel
theorem dX16_thousandths_167 : decode cX16_thousandths 167 = .ok (.invokevirtual 385, 3) := by decide +kernel
theorem dX16_thousandths_170 : decode cX16_thousandths 170 = .ok (.ifCond .eq 7, 3) := by decide +kernel
theorem dX16_thousandths_173 : decode cX16_thousandths 173 = .ok (.iconst 1, 1) := by decide +kernel
theorem dX16_thousandths_174 : decode cX16_thousandths 174 = .ok (.goto 4, 3) := by decide +kernel
theorem dX16_thousandths_177 : decode cX16_thousandths 177 = .ok (.iconst 0, 1) := by decide +kernel
theorem dX16_thousandths_178 : decode cX16_thousandths 178 = .ok (.iadd, 1) := by decide +kernel
theorem dX16_thousandths_179 : decode cX16_thousandths 179 = .ok (.istore 6, 2) := by decide +kernel
theorem dX16_thousandths_181 : decode cX16_thousandths 181 = .ok (.iinc 7 1, 3) := by decide +kernel
theorem dX16_thousandths_184 : decode cX16_thousandths 184 = .ok (.goto (-175), 3) := by decide +kernel
theorem dX16_thousandths_187 : decode cX16_thousandths 187 = .ok (.aload_n 0, 1) := by decide +kernel
theorem dX16_thousandths_188 : decode cX16_thousandths 188 = .ok (.iload 5, 2) := by decide +kernel
theorem dX16_thousandths_190 : decode cX16_thousandths 190 = .ok (.putfield 420, 3) := by decide +kernel
theorem dX16_thousandths_193 : decode cX16_thousandths 193 = .ok (.iload 5, 2) := by decide +kernel
theorem dX16_thousandths_195 : decode cX16_thousandths 195 = .ok (.ifCond .ne 7, 3) := by decide +kernel
theorem dX16_thousandths_198 : decode cX16_thousandths 198 = .ok (.iconst 0, 1) := by decide +kernel
theorem dX16_thousandths_199 : decode cX16_thousandths 199 = .ok (.goto 12, 3) := by decide +kernel
theorem dX16_thousandths_202 : decode cX16_thousandths 202 = .ok (.sipush 1000, 3) := by decide +kernel
theorem dX16_thousandths_205 : decode cX16_thousandths 205 = .ok (.iload 6, 2) := by decide +kernel
theorem dX16_thousandths_207 : decode cX16_thousandths 207 = .ok (.imul, 1) := by decide +kernel
theorem dX16_thousandths_208 : decode cX16_thousandths 208 = .ok (.iload 5, 2) := by decide +kernel
theorem dX16_thousandths_210 : decode cX16_thousandths 210 = .ok (.idiv, 1) := by decide +kernel
theorem dX16_thousandths_211 : decode cX16_thousandths 211 = .ok (.ireturn, 1) := by decide +kernel
theorem dX16_small_0 : decode cX16_small 0 = .ok (.aload_n 0, 1) := by decide +kernel
theorem dX16_small_1 : decode cX16_small 1 = .ok (.iconst 0, 1) := by decide +kernel
theorem dX16_small_2 : decode cX16_small 2 = .ok (.putfield 109, 3) := by decide +kernel
theorem dX16_small_5 : decode cX16_small 5 = .ok (.aload_n 0, 1) := by decide +kernel
theorem dX16_small_6 : decode cX16_small 6 = .ok (.iload_n 1, 1) := by decide +kernel
theorem dX16_small_7 : decode cX16_small 7 = .ok (.invokevirtual 379, 3) := by decide +kernel
theorem dX16_small_10 : decode cX16_small 10 = .ok (.ifCond .eq 38, 3) := by decide +kernel
theorem dX16_small_13 : decode cX16_small 13 = .ok (.aload_n 0, 1) := by decide +kernel
theorem dX16_small_14 : decode cX16_small 14 = .ok (.iload_n 2, 1) := by decide +kernel
theorem dX16_small_15 : decode cX16_small 15 = .ok (.invokevirtual 330, 3) := by decide +kernel
theorem dX16_small_18 : decode cX16_small 18 = .ok (.ifCond .eq 30, 3) := by decide +kernel
theorem dX16_small_21 : decode cX16_small 21 = .ok (.iload_n 3, 1) := by decide +kernel
theorem dX16_small_22 : decode cX16_small 22 = .ok (.iconst 0, 1) := by decide +kernel
theorem dX16_small_23 : decode cX16_small 23 = .ok (.aload_n 0, 1) := by decide +kernel
theorem dX16_small_24 : decode cX16_small 24 = .ok (.getfield 274, 3) := by decide +kernel
theorem dX16_small_27 : decode cX16_small 27 = .ok (.getfield 235, 3) := by decide +kernel
theorem dX16_small_30 : decode cX16_small 30 = .ok (.iload_n 2, 1) := by decide +kernel
theorem dX16_small_31 : decode cX16_small 31 = .ok (.iaload, 1) := by decide +kernel
theorem dX16_small_32 : decode cX16_small 32 = .ok (.invokestatic 231, 3) := by decide +kernel
theorem dX16_small_35 : decode cX16_small 35 = .ok (.ifCond .eq 13, 3) := by decide +kernel
theorem dX16_small_38 : decode cX16_small 38 = .ok (.iload 4, 2) := by decide +kernel
theorem dX16_small_40 : decode cX16_small 40 = .ok (.iconst 0, 1) := by decide +kernel
theorem dX16_small_41 : decode cX16_small 41 = .ok (.iconst 3, 1) := by decide +kernel
theorem dX16_small_42 : decode cX16_small 42 = .ok (.invokestatic 231, 3) := by decide +kernel
theorem dX16_small_45 : decode cX16_small 45 = .ok (.ifCond .ne 9, 3) := by decide +kernel
theorem dX16_small_48 : decode cX16_small 48 = .ok (.aload_n 0, 1) := by decide +kernel
theorem dX16_small_49 : decode cX16_small 49 = .ok (.iconst 1, 1) := by decide +kernel
theorem dX16_small_50 : decode cX16_small 50 = .ok (.invokevirtual 293, 3) := by decide +kernel
theorem dX16_small_53 : decode cX16_small 53 = .ok (.ireturn, 1) := by decide +kernel
theorem dX16_small_54 : decode cX16_small 54 = .ok (.aload_n 0, 1) := by decide +kernel
theorem dX16_small_55 : decode cX16_small 55 = .ok (.getfield 15, 3) := by decide +kernel
theorem dX16_small_58 : decode cX16_small 58 = .ok (.iload_n 1, 1) := by decide +kernel
theorem dX16_small_59 : decode cX16_small 59 = .ok (.aaload, 1) := by decide +kernel
theorem dX16_small_60 : decode cX16_small 60 = .ok (.astore 5, 2) := by decide +kernel
theorem dX16_small_62 : decode cX16_small 62 = .ok (.aload 5, 2) := by decide +kernel
theorem dX16_small_64 : decode cX16_small 64 = .ok (.getfield 279, 3) := by decide +kernel
theorem dX16_small_67 : decode cX16_small 67 = .ok (.iconst (-1), 1) := by decide +kernel
theorem dX16_small_68 : decode cX16_small 68 = .ok (.if_icmp .eq 9, 3) := by decide +kernel
theorem dX16_small_71 : decode cX16_small 71 = .ok (.aload_n 0, 1) := by decide +kernel
theorem dX16_small_72 : decode cX16_small 72 = .ok (.iconst 5, 1) := by decide +kernel
theorem dX16_small_73 : decode cX16_small 73 = .ok (.invokevirtual 293, 3) := by decide +kernel
theorem dX16_small_76 : decode cX16_small 76 = .ok (.ireturn, 1) := by decide +kernel
theorem dX16_small_77 : decode cX16_small 77 = .ok (.aload_n 0, 1) := by decide +kernel
theorem dX16_small_78 : decode cX16_small 78 = .ok (.aload 5, 2) := by decide +kernel
theorem dX16_small_80 : decode cX16_small 80 = .ok (.iload_n 2, 1) := by decide +kernel
theorem dX16_small_81 : decode cX16_small 81 = .ok (.iload_n 3, 1) := by decide +kernel
theorem dX16_small_82 : decode cX16_small 82 = .ok (.iconst 1, 1) := by decide +kernel
theorem dX16_small_83 : decode cX16_small 83 = .ok (.invokevirtual 423, 3) := by decide +kernel
theorem dX16_small_86 : decode cX16_small 86 = .ok (.istore 6, 2) := by decide +kernel
theorem dX16_small_88 : decode cX16_small 88 = .ok (.aload_n 0, 1) := by decide +kernel
theorem dX16_small_89 : decode cX16_small 89 = .ok (.aload 5, 2) := by decide +kernel
theorem dX16_small_91 : decode cX16_small 91 = .ok (.iload_n 2, 1) := by decide +kernel
theorem dX16_small_92 : decode cX16_small 92 = .ok (.iload_n 3, 1) := by decide +kernel
theorem dX16_small_93 : decode cX16_small 93 = .ok (.iconst 0, 1) := by decide +kernel
theorem dX16_small_94 : decode cX16_small 94 = .ok (.invokevirtual 423, 3) := by decide +kernel
theorem dX16_small_97 : decode cX16_small 97 = .ok (.istore 7, 2) := by decide +kernel
theorem dX16_small_99 : decode cX16_small 99 = .ok (.sipush 1000, 3) := by decide +kernel
theorem dX16_small_102 : decode cX16_small 102 = .ok (.aload_n 0, 1) := by decide +kernel
theorem dX16_small_103 : decode cX16_small 103 = .ok (.getfield 420, 3) := by decide +kernel
theorem dX16_small_106 : decode cX16_small 106 = .ok (.imul, 1) := by decide +kernel
theorem dX16_small_107 : decode cX16_small 107 = .ok (.aload_n 0, 1) := by decide +kernel
theorem dX16_small_108 : decode cX16_small 108 = .ok (.getfield 420, 3) := by decide +kernel
theorem dX16_small_111 : decode cX16_small 111 = .ok (.aload_n 0, 1) := by decide +kernel
theorem dX16_small_112 : decode cX16_small 112 = .ok (.getfield 88, 3) := by decide +kernel
theorem dX16_small_115 : decode cX16_small 115 = .ok (.iadd, 1) := by decide +kernel
theorem dX16_small_116 : decode cX16_small 116 = .ok (.idiv, 1) := by decide +kernel
theorem dX16_small_117 : decode cX16_small 117 = .ok (.istore 8, 2) := by decide +kernel
theorem dX16_small_119 : decode cX16_small 119 = .ok (.aload_n 0, 1) := by decide +kernel
theorem dX16_small_120 : decode cX16_small 120 = .ok (.iload 4, 2) := by decide +kernel
theorem dX16_small_122 : decode cX16_small 122 = .ok (.ifCond .ne 25, 3) := by decide +kernel
theorem dX16_small_125 : decode cX16_small 125 = .ok (.iload 7, 2) := by decide +kernel
theorem dX16_small_127 : decode cX16_small 127 = .ok (.iload 8, 2) := by decide +kernel
theorem dX16_small_129 : decode cX16_small 129 = .ok (.imul, 1) := by decide +kernel
theorem dX16_small_130 : decode cX16_small 130 = .ok (.iload 6, 2) := by decide +kernel
theorem dX16_small_132 : decode cX16_small 132 = .ok (.sipush 1000, 3) := by decide +kernel
theorem dX16_small_135 : decode cX16_small 135 = .ok (.iload 8, 2) := by decide +kernel
theorem dX16_small_137 : decode cX16_small 137 = .ok (.isub, 1) := by decide +kernel
theorem dX16_small_138 : decode cX16_small 138 = .ok (.imul, 1) := by decide +kernel
theorem dX16_small_139 : decode cX16_small 139 = .ok (.iadd, 1) := by decide +kernel
theorem dX16_small_140 : decode cX16_small 140 = .ok (.sipush 1000, 3) := by decide +kernel
theorem dX16_small_143 : decode cX16_small 143 = .ok (.idiv, 1) := by decide +kernel
theorem dX16_small_144 : decode cX16_small 144 = .ok (.goto 27, 3) := by decide +kernel
theorem dX16_small_147 : decode cX16_small 147 = .ok (.iload 4, 2) := by decide +kernel
theorem dX16_small_149 : decode cX16_small 149 = .ok (.iconst 1, 1) := by decide +kernel
theorem dX16_small_150 : decode cX16_small 150 = .ok (.if_icmp .ne 8, 3) := by decide +kernel
theorem dX16_small_153 : decode cX16_small 153 = .ok (.iload 7, 2) := by decide +kernel
theorem dX16_small_155 : decode cX16_small 155 = .ok (.goto 16, 3) := by decide +kernel
theorem dX16_small_158 : decode cX16_small 158 = .ok (.iload 4, 2) := by decide +kernel
theorem dX16_small_160 : decode cX16_small 160 = .ok (.iconst 2, 1) := by decide +kernel
theorem dX16_small_161 : decode cX16_small 161 = .ok (.if_icmp .ne 8, 3) := by decide +kernel
theorem dX16_small_164 : decode cX16_small 164 = .ok (.iload 6, 2) := by decide +kernel
theorem dX16_small_166 : decode cX16_small 166 = .ok (.goto 5, 3) := by decide +kernel
theorem dX16_small_169 : decode cX16_small 169 = .ok (.iload 8, 2) := by decide +kernel
theorem dX16_small_171 : decode cX16_small 171 = .ok (.invokevirtual 323, 3) := by decide +kernel
theorem dX16_small_174 : decode cX16_small 174 = .ok (.ireturn, 1) := by decide +kernel
theorem dX16_set_0 : decode cX16_set 0 = .ok (.aload_n 0, 1) := by decide +kernel
theorem dX16_set_1 : decode cX16_set 1 = .ok (.iconst 0, 1) := by decide +kernel
theorem dX16_set_2 : decode cX16_set 2 = .ok (.putfield 109, 3) := by decide +kernel
theorem dX16_set_5 : decode cX16_set 5 = .ok (.aload_n 0, 1) := by decide +kernel
theorem dX16_set_6 : decode cX16_set 6 = .ok (.getfield 274, 3) := by decide +kernel
theorem dX16_set_9 : decode cX16_set 9 = .ok (.ifnull 12, 3) := by decide +kernel
theorem dX16_set_12 : decode cX16_set 12 = .ok (.iload_n 1, 1) := by decide +kernel
theorem dX16_set_13 : decode cX16_set 13 = .ok (.iconst 0, 1) := by decide +kernel
theorem dX16_set_14 : decode cX16_set 14 = .ok (.iconst 3, 1) := by decide +kernel
theorem dX16_set_15 : decode cX16_set 15 = .ok (.invokestatic 231, 3) := by decide +kernel
theorem dX16_set_18 : decode cX16_set 18 = .ok (.ifCond .ne 9, 3) := by decide +kernel
theorem dX16_set_21 : decode cX16_set 21 = .ok (.aload_n 0, 1) := by decide +kernel
theorem dX16_set_22 : decode cX16_set 22 = .ok (.iconst 1, 1) := by decide +kernel
theorem dX16_set_23 : decode cX16_set 23 = .ok (.invokevirtual 339, 3) := by decide +kernel
theorem dX16_set_26 : decode cX16_set 26 = .ok (.ireturn, 1) := by decide +kernel
theorem dX16_set_27 : decode cX16_set 27 = .ok (.iload_n 2, 1) := by decide +kernel
theorem dX16_set_28 : decode cX16_set 28 = .ok (.iload_n 1, 1) := by decide +kernel
theorem dX16_set_29 : decode cX16_set 29 = .ok (.iconst 3, 1) := by decide +kernel
theorem dX16_set_30 : decode cX16_set 30 = .ok (.if_icmp .ne 7, 3) := by decide +kernel
theorem dX16_set_33 : decode cX16_set 33 = .ok (.iconst 0, 1) := by decide +kernel
theorem dX16_set_34 : decode cX16_set 34 = .ok (.goto 4, 3) := by decide +kernel
theorem dX16_set_37 : decode cX16_set 37 = .ok (.iconst 1, 1) := by decide +kernel
theorem dX16_set_38 : decode cX16_set 38 = .ok (.iload_n 1, 1) := by decide +kernel
theorem dX16_set_39 : decode cX16_set 39 = .ok (.ifCond .ne 8, 3) := by decide +kernel
theorem dX16_set_42 : decode cX16_set 42 = .ok (.bipush 20, 2) := by decide +kernel
theorem dX16_set_44 : decode cX16_set 44 = .ok (.goto 26, 3) := by decide +kernel
theorem dX16_set_47 : decode cX16_set 47 = .ok (.iload_n 1, 1) := by decide +kernel
theorem dX16_set_48 : decode cX16_set 48 = .ok (.iconst 1, 1) := by decide +kernel
theorem dX16_set_49 : decode cX16_set 49 = .ok (.if_icmp .ne 8, 3) := by decide +kernel
theorem dX16_set_52 : decode cX16_set 52 = .ok (.bipush 50, 2) := by decide +kernel
theorem dX16_set_54 : decode cX16_set 54 = .ok (.goto 16, 3) := by decide +kernel
theorem dX16_set_57 : decode cX16_set 57 = .ok (.iload_n 1, 1) := by decide +kernel
theorem dX16_set_58 : decode cX16_set 58 = .ok (.iconst 2, 1) := by decide +kernel
theorem dX16_set_59 : decode cX16_set 59 = .ok (.if_icmp .ne 8, 3) := by decide +kernel
theorem dX16_set_62 : decode cX16_set 62 = .ok (.bipush 99, 2) := by decide +kernel
theorem dX16_set_64 : decode cX16_set 64 = .ok (.goto 6, 3) := by decide +kernel
theorem dX16_set_67 : decode cX16_set 67 = .ok (.sipush 1000, 3) := by decide +kernel
theorem dX16_set_70 : decode cX16_set 70 = .ok (.invokestatic 231, 3) := by decide +kernel
theorem dX16_set_73 : decode cX16_set 73 = .ok (.ifCond .ne 9, 3) := by decide +kernel
theorem dX16_set_76 : decode cX16_set 76 = .ok (.aload_n 0, 1) := by decide +kernel
theorem dX16_set_77 : decode cX16_set 77 = .ok (.iconst 2, 1) := by decide +kernel
theorem dX16_set_78 : decode cX16_set 78 = .ok (.invokevirtual 339, 3) := by decide +kernel
theorem dX16_set_81 : decode cX16_set 81 = .ok (.ireturn, 1) := by decide +kernel
theorem dX16_set_82 : decode cX16_set 82 = .ok (.iload_n 1, 1) := by decide +kernel
theorem dX16_set_83 : decode cX16_set 83 = .ok (.ifCond .ne 11, 3) := by decide +kernel
theorem dX16_set_86 : decode cX16_set 86 = .ok (.aload_n 0, 1) := by decide +kernel
theorem dX16_set_87 : decode cX16_set 87 = .ok (.iload_n 2, 1) := by decide +kernel
theorem dX16_set_88 : decode cX16_set 88 = .ok (.putfield 82, 3) := by decide +kernel
theorem dX16_set_91 : decode cX16_set 91 = .ok (.goto 34, 3) := by decide +kernel
theorem dX16_set_94 : decode cX16_set 94 = .ok (.iload_n 1, 1) := by decide +kernel
theorem dX16_set_95 : decode cX16_set 95 = .ok (.iconst 1, 1) := by decide +kernel
theorem dX16_set_96 : decode cX16_set 96 = .ok (.if_icmp .ne 11, 3) := by decide +kernel
theorem dX16_set_99 : decode cX16_set 99 = .ok (.aload_n 0, 1) := by decide +kernel
theorem dX16_set_100 : decode cX16_set 100 = .ok (.iload_n 2, 1) := by decide +kernel
theorem dX16_set_101 : decode cX16_set 101 = .ok (.putfield 85, 3) := by decide +kernel
theorem dX16_set_104 : decode cX16_set 104 = .ok (.goto 21, 3) := by decide +kernel
theorem dX16_set_107 : decode cX16_set 107 = .ok (.iload_n 1, 1) := by decide +kernel
theorem dX16_set_108 : decode cX16_set 108 = .ok (.iconst 2, 1) := by decide +kernel
theorem dX16_set_109 : decode cX16_set 109 = .ok (.if_icmp .ne 11, 3) := by decide +kernel
theorem dX16_set_112 : decode cX16_set 112 = .ok (.aload_n 0, 1) := by decide +kernel
theorem dX16_set_113 : decode cX16_set 113 = .ok (.iload_n 2, 1) := by decide +kernel
theorem dX16_set_114 : decode cX16_set 114 = .ok (.putfield 88, 3) := by decide +kernel
theorem dX16_set_117 : decode cX16_set 117 = .ok (.goto 8, 3) := by decide +kernel
theorem dX16_set_120 : decode cX16_set 120 = .ok (.aload_n 0, 1) := by decide +kernel
theorem dX16_set_121 : decode cX16_set 121 = .ok (.iload_n 2, 1) := by decide +kernel
theorem dX16_set_122 : decode cX16_set 122 = .ok (.putfield 320, 3) := by decide +kernel
theorem dX16_set_125 : decode cX16_set 125 = .ok (.aload_n 0, 1) := by decide +kernel
theorem dX16_set_126 : decode cX16_set 126 = .ok (.invokevirtual 342, 3) := by decide +kernel
theorem dX16_set_129 : decode cX16_set 129 = .ok (.ireturn, 1) := by decide +kernel
theorem dX16_counts_0 : decode cX16_counts 0 = .ok (.aload_n 0, 1) := by decide +kernel
theorem dX16_counts_1 : decode cX16_counts 1 = .ok (.aload_n 0, 1) := by decide +kernel
theorem dX16_counts_2 : decode cX16_counts 2 = .ok (.aload_n 1, 1) := by decide +kernel
theorem dX16_counts_3 : decode cX16_counts 3 = .ok (.getfield 279, 3) := by decide +kernel
theorem dX16_counts_6 : decode cX16_counts 6 = .ok (.invokevirtual 382, 3) := by decide +kernel
theorem dX16_counts_9 : decode cX16_counts 9 = .ok (.putfield 427, 3) := by decide +kernel
theorem dX16_counts_12 : decode cX16_counts 12 = .ok (.aload_n 0, 1) := by decide +kernel
theorem dX16_counts_13 : decode cX16_counts 13 = .ok (.aload_n 0, 1) := by decide +kernel
theorem dX16_counts_14 : decode cX16_counts 14 = .ok (.aload_n 1, 1) := by decide +kernel
theorem dX16_counts_15 : decode cX16_counts 15 = .ok (.getfield 281, 3) := by decide +kernel
theorem dX16_counts_18 : decode cX16_counts 18 = .ok (.invokevirtual 382, 3) := by decide +kernel
theorem dX16_counts_21 : decode cX16_counts 21 = .ok (.putfield 430, 3) := by decide +kernel
theorem dX16_counts_24 : decode cX16_counts 24 = .ok (.iconst 0, 1) := by decide +kernel
theorem dX16_counts_25 : decode cX16_counts 25 = .ok (.istore_n 3, 1) := by decide +kernel
theorem dX16_counts_26 : decode cX16_counts 26 = .ok (.iload_n 3, 1) := by decide +kernel
theorem dX16_counts_27 : decode cX16_counts 27 = .ok (.aload_n 0, 1) := by decide +kernel
theorem dX16_counts_28 : decode cX16_counts 28 = .ok (.getfield 427, 3) := by decide +kernel
theorem dX16_counts_31 : decode cX16_counts 31 = .ok (.aload_n 0, 1) := by decide +kernel
theorem dX16_counts_32 : decode cX16_counts 32 = .ok (.getfield 430, 3) := by decide +kernel
theorem dX16_counts_35 : decode cX16_counts 35 = .ok (.imul, 1) := by decide +kernel
theorem dX16_counts_36 : decode cX16_counts 36 = .ok (.if_icmp .ge 13, 3) := by decide +kernel
theorem dX16_counts_39 : decode cX16_counts 39 = .ok (.aload_n 2, 1) := by decide +kernel
theorem dX16_counts_40 : decode cX16_counts 40 = .ok (.iload_n 3, 1) := by decide +kernel
theorem dX16_counts_41 : decode cX16_counts 41 = .ok (.iconst 0, 1) := by decide +kernel
theorem dX16_counts_42 : decode cX16_counts 42 = .ok (.iastore, 1) := by decide +kernel
theorem dX16_counts_43 : decode cX16_counts 43 = .ok (.iinc 3 1, 3) := by decide +kernel
theorem dX16_counts_46 : decode cX16_counts 46 = .ok (.goto (-20), 3) := by decide +kernel
theorem dX16_counts_49 : decode cX16_counts 49 = .ok (.iconst 0, 1) := by decide +kernel
theorem dX16_counts_50 : decode cX16_counts 50 = .ok (.istore_n 3, 1) := by decide +kernel
theorem dX16_counts_51 : decode cX16_counts 51 = .ok (.iload_n 3, 1) := by decide +kernel
theorem dX16_counts_52 : decode cX16_counts 52 = .ok (.aload_n 0, 1) := by decide +kernel
theorem dX16_counts_53 : decode cX16_counts 53 = .ok (.getfield 308, 3) := by decide +kernel
theorem dX16_counts_56 : decode cX16_counts 56 = .ok (.if_icmp .ge 72, 3) := by decide +kernel
theorem dX16_counts_59 : decode cX16_counts 59 = .ok (.iconst 0, 1) := by decide +kernel
theorem dX16_counts_60 : decode cX16_counts 60 = .ok (.istore 4, 2) := by decide +kernel
theorem dX16_counts_62 : decode cX16_counts 62 = .ok (.iload 4, 2) := by decide +kernel
theorem dX16_counts_64 : decode cX16_counts 64 = .ok (.aload_n 0, 1) := by decide +kernel
theorem dX16_counts_65 : decode cX16_counts 65 = .ok (.getfield 427, 3) := by decide +kernel
theorem dX16_counts_68 : decode cX16_counts 68 = .ok (.aload_n 0, 1) := by decide +kernel
theorem dX16_counts_69 : decode cX16_counts 69 = .ok (.getfield 430, 3) := by decide +kernel
theorem dX16_counts_72 : decode cX16_counts 72 = .ok (.imul, 1) := by decide +kernel
theorem dX16_counts_73 : decode cX16_counts 73 = .ok (.if_icmp .ge 49, 3) := by decide +kernel
theorem dX16_counts_76 : decode cX16_counts 76 = .ok (.aload_n 2, 1) := by decide +kernel
theorem dX16_counts_77 : decode cX16_counts 77 = .ok (.iload 4, 2) := by decide +kernel
theorem dX16_counts_79 : decode cX16_counts 79 = .ok (.dup2, 1) := by decide +kernel
theorem dX16_counts_80 : decode cX16_counts 80 = .ok (.iaload, 1) := by decide +kernel
theorem dX16_counts_81 : decode cX16_counts 81 = .ok (.aload_n 0, 1) := by decide +kernel
theorem dX16_counts_82 : decode cX16_counts 82 = .ok (.aload_n 1, 1) := by decide +kernel
theorem dX16_counts_83 : decode cX16_counts 83 = .ok (.iload_n 3, 1) := by decide +kernel
theorem dX16_counts_84 : decode cX16_counts 84 = .ok (.iload 4, 2) := by decide +kernel
theorem dX16_counts_86 : decode cX16_counts 86 = .ok (.aload_n 0, 1) := by decide +kernel
theorem dX16_counts_87 : decode cX16_counts 87 = .ok (.getfield 430, 3) := by decide +kernel
theorem dX16_counts_90 : decode cX16_counts 90 = .ok (.idiv, 1) := by decide +kernel
theorem dX16_counts_91 : decode cX16_counts 91 = .ok (.iload 4, 2) := by decide +kernel
theorem dX16_counts_93 : decode cX16_counts 93 = .ok (.aload_n 0, 1) := by decide +kernel
theorem dX16_counts_94 : decode cX16_counts 94 = .ok (.getfield 430, 3) := by decide +kernel
theorem dX16_counts_97 : decode cX16_counts 97 = .ok (.irem, 1) := by decide +kernel
theorem dX16_counts_98 : decode cX16_counts 98 = .ok (.aload_n 0, 1) := by decide +kernel
theorem dX16_counts_99 : decode cX16_counts 99 = .ok (.getfield 314, 3) := by decide +kernel
theorem dX16_counts_102 : decode cX16_counts 102 = .ok (.iconst 0, 1) := by decide +kernel
theorem dX16_counts_103 : decode cX16_counts 103 = .ok (.invokevirtual 389, 3) := by decide +kernel
theorem dX16_counts_106 : decode cX16_counts 106 = .ok (.ifCond .eq 7, 3) := by decide +kernel
theorem dX16_counts_109 : decode cX16_counts 109 = .ok (.iconst 1, 1) := by decide +kernel
theorem dX16_counts_110 : decode cX16_counts 110 = .ok (.goto 4, 3) := by decide +kernel
theorem dX16_counts_113 : decode cX16_counts 113 = .ok (.iconst 0, 1) := by decide +kernel
theorem dX16_counts_114 : decode cX16_counts 114 = .ok (.iadd, 1) := by decide +kernel
theorem dX16_counts_115 : decode cX16_counts 115 = .ok (.iastore, 1) := by decide +kernel
theorem dX16_counts_116 : decode cX16_counts 116 = .ok (.iinc 4 1, 3) := by decide +kernel
theorem dX16_counts_119 : decode cX16_counts 119 = .ok (.goto (-57), 3) := by decide +kernel
theorem dX16_counts_122 : decode cX16_counts 122 = .ok (.iinc 3 1, 3) := by decide +kernel
theorem dX16_counts_125 : decode cX16_counts 125 = .ok (.goto (-74), 3) := by decide +kernel
theorem dX16_counts_128 : decode cX16_counts 128 = .ok (.return_, 1) := by decide +kernel
theorem dX16_isByTwo_0 : decode cX16_isByTwo 0 = .ok (.aload_n 1, 1) := by decide +kernel
theorem dX16_isByTwo_1 : decode cX16_isByTwo 1 = .ok (.getfield 277, 3) := by decide +kernel
theorem dX16_isByTwo_4 : decode cX16_isByTwo 4 = .ok (.iconst (-1), 1) := by decide +kernel
theorem dX16_isByTwo_5 : decode cX16_isByTwo 5 = .ok (.if_icmp .ne 37, 3) := by decide +kernel
theorem dX16_isByTwo_8 : decode cX16_isByTwo 8 = .ok (.aload_n 1, 1) := by decide +kernel
theorem dX16_isByTwo_9 : decode cX16_isByTwo 9 = .ok (.getfield 281, 3) := by decide +kernel
theorem dX16_isByTwo_12 : decode cX16_isByTwo 12 = .ok (.iconst (-1), 1) := by decide +kernel
theorem dX16_isByTwo_13 : decode cX16_isByTwo 13 = .ok (.if_icmp .eq 29, 3) := by decide +kernel
theorem dX16_isByTwo_16 : decode cX16_isByTwo 16 = .ok (.aload_n 0, 1) := by decide +kernel
theorem dX16_isByTwo_17 : decode cX16_isByTwo 17 = .ok (.aload_n 1, 1) := by decide +kernel
theorem dX16_isByTwo_18 : decode cX16_isByTwo 18 = .ok (.getfield 279, 3) := by decide +kernel
theorem dX16_isByTwo_21 : decode cX16_isByTwo 21 = .ok (.invokevirtual 382, 3) := by decide +kernel
theorem dX16_isByTwo_24 : decode cX16_isByTwo 24 = .ok (.aload_n 0, 1) := by decide +kernel
theorem dX16_isByTwo_25 : decode cX16_isByTwo 25 = .ok (.aload_n 1, 1) := by decide +kernel
theorem dX16_isByTwo_26 : decode cX16_isByTwo 26 = .ok (.getfield 281, 3) := by decide +kernel
theorem dX16_isByTwo_29 : decode cX16_isByTwo 29 = .ok (.invokevirtual 382, 3) := by decide +kernel
theorem dX16_isByTwo_32 : decode cX16_isByTwo 32 = .ok (.imul, 1) := by decide +kernel
theorem dX16_isByTwo_33 : decode cX16_isByTwo 33 = .ok (.bipush 60, 2) := by decide +kernel
theorem dX16_isByTwo_35 : decode cX16_isByTwo 35 = .ok (.if_icmp .gt 7, 3) := by decide +kernel
theorem dX16_isByTwo_38 : decode cX16_isByTwo 38 = .ok (.iconst 1, 1) := by decide +kernel
theorem dX16_isByTwo_39 : decode cX16_isByTwo 39 = .ok (.goto 4, 3) := by decide +kernel
theorem dX16_isByTwo_42 : decode cX16_isByTwo 42 = .ok (.iconst 0, 1) := by decide +kernel
theorem dX16_isByTwo_43 : decode cX16_isByTwo 43 = .ok (.ireturn, 1) := by decide +kernel
theorem dX16_isShy_0 : decode cX16_isShy 0 = .ok (.aload_n 0, 1) := by decide +kernel
theorem dX16_isShy_1 : decode cX16_isShy 1 = .ok (.getfield 91, 3) := by decide +kernel
theorem dX16_isShy_4 : decode cX16_isShy 4 = .ok (.iload_n 1, 1) := by decide +kernel
theorem dX16_isShy_5 : decode cX16_isShy 5 = .ok (.iaload, 1) := by decide +kernel
theorem dX16_isShy_6 : decode cX16_isShy 6 = .ok (.iconst 1, 1) := by decide +kernel
theorem dX16_isShy_7 : decode cX16_isShy 7 = .ok (.aload_n 0, 1) := by decide +kernel
theorem dX16_isShy_8 : decode cX16_isShy 8 = .ok (.getfield 82, 3) := by decide +kernel
theorem dX16_isShy_11 : decode cX16_isShy 11 = .ok (.iconst 1, 1) := by decide +kernel
theorem dX16_isShy_12 : decode cX16_isShy 12 = .ok (.isub, 1) := by decide +kernel
theorem dX16_isShy_13 : decode cX16_isShy 13 = .ok (.invokestatic 231, 3) := by decide +kernel
theorem dX16_isShy_16 : decode cX16_isShy 16 = .ok (.ireturn, 1) := by decide +kernel
theorem dX16_shy_0 : decode cX16_shy 0 = .ok (.aload_n 0, 1) := by decide +kernel
theorem dX16_shy_1 : decode cX16_shy 1 = .ok (.iconst 0, 1) := by decide +kernel
theorem dX16_shy_2 : decode cX16_shy 2 = .ok (.putfield 109, 3) := by decide +kernel
theorem dX16_shy_5 : decode cX16_shy 5 = .ok (.aload_n 0, 1) := by decide +kernel
theorem dX16_shy_6 : decode cX16_shy 6 = .ok (.iload_n 1, 1) := by decide +kernel
theorem dX16_shy_7 : decode cX16_shy 7 = .ok (.invokevirtual 379, 3) := by decide +kernel
theorem dX16_shy_10 : decode cX16_shy 10 = .ok (.ifCond .ne 9, 3) := by decide +kernel
theorem dX16_shy_13 : decode cX16_shy 13 = .ok (.aload_n 0, 1) := by decide +kernel
theorem dX16_shy_14 : decode cX16_shy 14 = .ok (.iconst 1, 1) := by decide +kernel
theorem dX16_shy_15 : decode cX16_shy 15 = .ok (.invokevirtual 293, 3) := by decide +kernel
theorem dX16_shy_18 : decode cX16_shy 18 = .ok (.ireturn, 1) := by decide +kernel
theorem dX16_shy_19 : decode cX16_shy 19 = .ok (.aload_n 0, 1) := by decide +kernel
theorem dX16_shy_20 : decode cX16_shy 20 = .ok (.aload_n 0, 1) := by decide +kernel
theorem dX16_shy_21 : decode cX16_shy 21 = .ok (.getfield 15, 3) := by decide +kernel
theorem dX16_shy_24 : decode cX16_shy 24 = .ok (.iload_n 1, 1) := by decide +kernel
theorem dX16_shy_25 : decode cX16_shy 25 = .ok (.aaload, 1) := by decide +kernel
theorem dX16_shy_26 : decode cX16_shy 26 = .ok (.invokevirtual 433, 3) := by decide +kernel
theorem dX16_shy_29 : decode cX16_shy 29 = .ok (.ifCond .ne 9, 3) := by decide +kernel
theorem dX16_shy_32 : decode cX16_shy 32 = .ok (.aload_n 0, 1) := by decide +kernel
theorem dX16_shy_33 : decode cX16_shy 33 = .ok (.iconst 5, 1) := by decide +kernel
theorem dX16_shy_34 : decode cX16_shy 34 = .ok (.invokevirtual 293, 3) := by decide +kernel
theorem dX16_shy_37 : decode cX16_shy 37 = .ok (.ireturn, 1) := by decide +kernel
theorem dX16_shy_38 : decode cX16_shy 38 = .ok (.aload_n 0, 1) := by decide +kernel
theorem dX16_shy_39 : decode cX16_shy 39 = .ok (.aload_n 0, 1) := by decide +kernel
theorem dX16_shy_40 : decode cX16_shy 40 = .ok (.getfield 15, 3) := by decide +kernel
theorem dX16_shy_43 : decode cX16_shy 43 = .ok (.iload_n 1, 1) := by decide +kernel
theorem dX16_shy_44 : decode cX16_shy 44 = .ok (.aaload, 1) := by decide +kernel
theorem dX16_shy_45 : decode cX16_shy 45 = .ok (.aload_n 0, 1) := by decide +kernel
theorem dX16_shy_46 : decode cX16_shy 46 = .ok (.getfield 91, 3) := by decide +kernel
theorem dX16_shy_49 : decode cX16_shy 49 = .ok (.invokevirtual 437, 3) := by decide +kernel
theorem dX16_shy_52 : decode cX16_shy 52 = .ok (.iconst 0, 1) := by decide +kernel
theorem dX16_shy_53 : decode cX16_shy 53 = .ok (.istore_n 2, 1) := by decide +kernel
theorem dX16_shy_54 : decode cX16_shy 54 = .ok (.iconst 0, 1) := by decide +kernel
theorem dX16_shy_55 : decode cX16_shy 55 = .ok (.istore_n 3, 1) := by decide +kernel
theorem dX16_shy_56 : decode cX16_shy 56 = .ok (.iload_n 3, 1) := by decide +kernel
theorem dX16_shy_57 : decode cX16_shy 57 = .ok (.aload_n 0, 1) := by decide +kernel
theorem dX16_shy_58 : decode cX16_shy 58 = .ok (.getfield 427, 3) := by decide +kernel
theorem dX16_shy_61 : decode cX16_shy 61 = .ok (.aload_n 0, 1) := by decide +kernel
theorem dX16_shy_62 : decode cX16_shy 62 = .ok (.getfield 430, 3) := by decide +kernel
theorem dX16_shy_65 : decode cX16_shy 65 = .ok (.imul, 1) := by decide +kernel
theorem dX16_shy_66 : decode cX16_shy 66 = .ok (.if_icmp .ge 25, 3) := by decide +kernel
theorem dX16_shy_69 : decode cX16_shy 69 = .ok (.iload_n 2, 1) := by decide +kernel
theorem dX16_shy_70 : decode cX16_shy 70 = .ok (.aload_n 0, 1) := by decide +kernel
theorem dX16_shy_71 : decode cX16_shy 71 = .ok (.iload_n 3, 1) := by decide +kernel
theorem dX16_shy_72 : decode cX16_shy 72 = .ok (.invokevirtual 441, 3) := by decide +kernel
theorem dX16_shy_75 : decode cX16_shy 75 = .ok (.ifCond .eq 7, 3) := by decide +kernel
theorem dX16_shy_78 : decode cX16_shy 78 = .ok (.iconst 1, 1) := by decide +kernel
theorem dX16_shy_79 : decode cX16_shy 79 = .ok (.goto 4, 3) := by decide +kernel
theorem dX16_shy_82 : decode cX16_shy 82 = .ok (.iconst 0, 1) := by decide +kernel
theorem dX16_shy_83 : decode cX16_shy 83 = .ok (.iadd, 1) := by decide +kernel
theorem dX16_shy_84 : decode cX16_shy 84 = .ok (.istore_n 2, 1) := by decide +kernel
theorem dX16_shy_85 : decode cX16_shy 85 = .ok (.iinc 3 1, 3) := by decide +kernel
theorem dX16_shy_88 : decode cX16_shy 88 = .ok (.goto (-32), 3) := by decide +kernel
theorem dX16_shy_91 : decode cX16_shy 91 = .ok (.aload_n 0, 1) := by decide +kernel
theorem dX16_shy_92 : decode cX16_shy 92 = .ok (.iload_n 2, 1) := by decide +kernel
theorem dX16_shy_93 : decode cX16_shy 93 = .ok (.invokevirtual 323, 3) := by decide +kernel
theorem dX16_shy_96 : decode cX16_shy 96 = .ok (.ireturn, 1) := by decide +kernel
theorem dX16_has_0 : decode cX16_has 0 = .ok (.lload_n 0, 1) := by decide +kernel
theorem dX16_has_1 : decode cX16_has 1 = .ok (.iload_n 2, 1) := by decide +kernel
theorem dX16_has_2 : decode cX16_has 2 = .ok (.lshr, 1) := by decide +kernel
theorem dX16_has_3 : decode cX16_has 3 = .ok (.lconst 1, 1) := by decide +kernel
theorem dX16_has_4 : decode cX16_has 4 = .ok (.land, 1) := by decide +kernel
theorem dX16_has_5 : decode cX16_has 5 = .ok (.lconst 1, 1) := by decide +kernel
theorem dX16_has_6 : decode cX16_has 6 = .ok (.lcmp, 1) := by decide +kernel
theorem dX16_has_7 : decode cX16_has 7 = .ok (.ifCond .ne 7, 3) := by decide +kernel
theorem dX16_has_10 : decode cX16_has 10 = .ok (.iconst 1, 1) := by decide +kernel
theorem dX16_has_11 : decode cX16_has 11 = .ok (.goto 4, 3) := by decide +kernel
theorem dX16_has_14 : decode cX16_has 14 = .ok (.iconst 0, 1) := by decide +kernel
theorem dX16_has_15 : decode cX16_has 15 = .ok (.ireturn, 1) := by decide +kernel
theorem dX16_leads_0 : decode cX16_leads 0 = .ok (.iconst 0, 1) := by decide +kernel
theorem dX16_leads_1 : decode cX16_leads 1 = .ok (.istore 6, 2) := by decide +kernel
theorem dX16_leads_3 : decode cX16_leads 3 = .ok (.iload 6, 2) := by decide +kernel
theorem dX16_leads_5 : decode cX16_leads 5 = .ok (.aload_n 0, 1) := by decide +kernel
theorem dX16_leads_6 : decode cX16_leads 6 = .ok (.getfield 427, 3) := by decide +kernel
theorem dX16_leads_9 : decode cX16_leads 9 = .ok (.aload_n 0, 1) := by decide +kernel
theorem dX16_leads_10 : decode cX16_leads 10 = .ok (.getfield 430, 3) := by decide +kernel
theorem dX16_leads_13 : decode cX16_leads 13 = .ok (.iadd, 1) := by decide +kernel
theorem dX16_leads_14 : decode cX16_leads 14 = .ok (.if_icmp .ge 17, 3) := by decide +kernel
theorem dX16_leads_17 : decode cX16_leads 17 = .ok (.aload_n 0, 1) := by decide +kernel
theorem dX16_leads_18 : decode cX16_leads 18 = .ok (.getfield 100, 3) := by decide +kernel
theorem dX16_leads_21 : decode cX16_leads 21 = .ok (.iload 6, 2) := by decide +kernel
theorem dX16_leads_23 : decode cX16_leads 23 = .ok (.iconst (-1), 1) := by decide +kernel
theorem dX16_leads_24 : decode cX16_leads 24 = .ok (.iastore, 1) := by decide +kernel
theorem dX16_leads_25 : decode cX16_leads 25 = .ok (.iinc 6 1, 3) := by decide +kernel
theorem dX16_leads_28 : decode cX16_leads 28 = .ok (.goto (-25), 3) := by decide +kernel
theorem dX16_leads_31 : decode cX16_leads 31 = .ok (.aload_n 0, 1) := by decide +kernel
theorem dX16_leads_32 : decode cX16_leads 32 = .ok (.getfield 100, 3) := by decide +kernel
theorem dX16_leads_35 : decode cX16_leads 35 = .ok (.iload_n 1, 1) := by decide +kernel
theorem dX16_leads_36 : decode cX16_leads 36 = .ok (.iload_n 1, 1) := by decide +kernel
theorem dX16_leads_37 : decode cX16_leads 37 = .ok (.iastore, 1) := by decide +kernel
theorem dX16_leads_38 : decode cX16_leads 38 = .ok (.aload_n 0, 1) := by decide +kernel
theorem dX16_leads_39 : decode cX16_leads 39 = .ok (.getfield 103, 3) := by decide +kernel
theorem dX16_leads_42 : decode cX16_leads 42 = .ok (.iconst 0, 1) := by decide +kernel
theorem dX16_leads_43 : decode cX16_leads 43 = .ok (.iload_n 1, 1) := by decide +kernel
theorem dX16_leads_44 : decode cX16_leads 44 = .ok (.iastore, 1) := by decide +kernel
theorem dX16_leads_45 : decode cX16_leads 45 = .ok (.iconst 1, 1) := by decide +kernel
theorem dX16_leads_46 : decode cX16_leads 46 = .ok (.istore 6, 2) := by decide +kernel
theorem dX16_leads_48 : decode cX16_leads 48 = .ok (.iconst 0, 1) := by decide +kernel
theorem dX16_leads_49 : decode cX16_leads 49 = .ok (.istore 7, 2) := by decide +kernel
theorem dX16_leads_51 : decode cX16_leads 51 = .ok (.iload 7, 2) := by decide +kernel
theorem dX16_leads_53 : decode cX16_leads 53 = .ok (.iload 6, 2) := by decide +kernel
theorem dX16_leads_55 : decode cX16_leads 55 = .ok (.if_icmp .ge 189, 3) := by decide +kernel
theorem dX16_leads_58 : decode cX16_leads 58 = .ok (.aload_n 0, 1) := by decide +kernel
theorem dX16_leads_59 : decode cX16_leads 59 = .ok (.getfield 103, 3) := by decide +kernel
theorem dX16_leads_62 : decode cX16_leads 62 = .ok (.iload 7, 2) := by decide +kernel
theorem dX16_leads_64 : decode cX16_leads 64 = .ok (.iaload, 1) := by decide +kernel
theorem dX16_leads_65 : decode cX16_leads 65 = .ok (.istore 8, 2) := by decide +kernel
theorem dX16_leads_67 : decode cX16_leads 67 = .ok (.iconst 0, 1) := by decide +kernel
theorem dX16_leads_68 : decode cX16_leads 68 = .ok (.istore 9, 2) := by decide +kernel
theorem dX16_leads_70 : decode cX16_leads 70 = .ok (.iload 9, 2) := by decide +kernel
theorem dX16_leads_72 : decode cX16_leads 72 = .ok (.aload_n 0, 1) := by decide +kernel
theorem dX16_leads_73 : decode cX16_leads 73 = .ok (.getfield 427, 3) := by decide +kernel
theorem dX16_leads_76 : decode cX16_leads 76 = .ok (.aload_n 0, 1) := by decide +kernel
theorem dX16_leads_77 : decode cX16_leads 77 = .ok (.getfield 430, 3) := by decide +kernel
theorem dX16_leads_80 : decode cX16_leads 80 = .ok (.iadd, 1) := by decide +kernel
theorem dX16_leads_81 : decode cX16_leads 81 = .ok (.if_icmp .ge 157, 3) := by decide +kernel
theorem dX16_leads_84 : decode cX16_leads 84 = .ok (.iload 8, 2) := by decide +kernel
theorem dX16_leads_86 : decode cX16_leads 86 = .ok (.aload_n 0, 1) := by decide +kernel
theorem dX16_leads_87 : decode cX16_leads 87 = .ok (.getfield 427, 3) := by decide +kernel
theorem dX16_leads_90 : decode cX16_leads 90 = .ok (.if_icmp .ge 7, 3) := by decide +kernel
theorem dX16_leads_93 : decode cX16_leads 93 = .ok (.iconst 1, 1) := by decide +kernel
theorem dX16_leads_94 : decode cX16_leads 94 = .ok (.goto 4, 3) := by decide +kernel
theorem dX16_leads_97 : decode cX16_leads 97 = .ok (.iconst 0, 1) := by decide +kernel
theorem dX16_leads_98 : decode cX16_leads 98 = .ok (.iload 9, 2) := by decide +kernel
theorem dX16_leads_100 : decode cX16_leads 100 = .ok (.aload_n 0, 1) := by decide +kernel
theorem dX16_leads_101 : decode cX16_leads 101 = .ok (.getfield 427, 3) := by decide +kernel
theorem dX16_leads_104 : decode cX16_leads 104 = .ok (.if_icmp .ge 7, 3) := by decide +kernel
theorem dX16_leads_107 : decode cX16_leads 107 = .ok (.iconst 1, 1) := by decide +kernel
theorem dX16_leads_108 : decode cX16_leads 108 = .ok (.goto 4, 3) := by decide +kernel
theorem dX16_leads_111 : decode cX16_leads 111 = .ok (.iconst 0, 1) := by decide +kernel
theorem dX16_leads_112 : decode cX16_leads 112 = .ok (.if_icmp .eq 120, 3) := by decide +kernel
theorem dX16_leads_115 : decode cX16_leads 115 = .ok (.aload_n 0, 1) := by decide +kernel
theorem dX16_leads_116 : decode cX16_leads 116 = .ok (.getfield 100, 3) := by decide +kernel
theorem dX16_leads_119 : decode cX16_leads 119 = .ok (.iload 9, 2) := by decide +kernel
theorem dX16_leads_121 : decode cX16_leads 121 = .ok (.iaload, 1) := by decide +kernel
theorem dX16_leads_122 : decode cX16_leads 122 = .ok (.iconst (-1), 1) := by decide +kernel
theorem dX16_leads_123 : decode cX16_leads 123 = .ok (.if_icmp .eq 6, 3) := by decide +kernel
theorem dX16_leads_126 : decode cX16_leads 126 = .ok (.goto 106, 3) := by decide +kernel
theorem dX16_leads_129 : decode cX16_leads 129 = .ok (.iload 8, 2) := by decide +kernel
theorem dX16_leads_131 : decode cX16_leads 131 = .ok (.aload_n 0, 1) := by decide +kernel
theorem dX16_leads_132 : decode cX16_leads 132 = .ok (.getfield 427, 3) := by decide +kernel
theorem dX16_leads_135 : decode cX16_leads 135 = .ok (.if_icmp .ge 21, 3) := by decide +kernel
theorem dX16_leads_138 : decode cX16_leads 138 = .ok (.aload_n 0, 1) := by decide +kernel
theorem dX16_leads_139 : decode cX16_leads 139 = .ok (.getfield 430, 3) := by decide +kernel
theorem dX16_leads_142 : decode cX16_leads 142 = .ok (.iload 8, 2) := by decide +kernel
theorem dX16_leads_144 : decode cX16_leads 144 = .ok (.imul, 1) := by decide +kernel
theorem dX16_leads_145 : decode cX16_leads 145 = .ok (.iload 9, 2) := by decide +kernel
theorem dX16_leads_147 : decode cX16_leads 147 = .ok (.iadd, 1) := by decide +kernel
theorem dX16_leads_148 : decode cX16_leads 148 = .ok (.aload_n 0, 1) := by decide +kernel
theorem dX16_leads_149 : decode cX16_leads 149 = .ok (.getfield 427, 3) := by decide +kernel
theorem dX16_leads_152 : decode cX16_leads 152 = .ok (.isub, 1) := by decide +kernel
theorem dX16_leads_153 : decode cX16_leads 153 = .ok (.goto 18, 3) := by decide +kernel
theorem dX16_leads_156 : decode cX16_leads 156 = .ok (.aload_n 0, 1) := by decide +kernel
theorem dX16_leads_157 : decode cX16_leads 157 = .ok (.getfield 430, 3) := by decide +kernel
theorem dX16_leads_160 : decode cX16_leads 160 = .ok (.iload 9, 2) := by decide +kernel
theorem dX16_leads_162 : decode cX16_leads 162 = .ok (.imul, 1) := by decide +kernel
theorem dX16_leads_163 : decode cX16_leads 163 = .ok (.iload 8, 2) := by decide +kernel
theorem dX16_leads_165 : decode cX16_leads 165 = .ok (.iadd, 1) := by decide +kernel
theorem dX16_leads_166 : decode cX16_leads 166 = .ok (.aload_n 0, 1) := by decide +kernel
theorem dX16_leads_167 : decode cX16_leads 167 = .ok (.getfield 427, 3) := by decide +kernel
theorem dX16_leads_170 : decode cX16_leads 170 = .ok (.isub, 1) := by decide +kernel
theorem dX16_leads_171 : decode cX16_leads 171 = .ok (.istore 10, 2) := by decide +kernel
theorem dX16_leads_173 : decode cX16_leads 173 = .ok (.iload 10, 2) := by decide +kernel
theorem dX16_leads_175 : decode cX16_leads 175 = .ok (.iload 5, 2) := by decide +kernel
theorem dX16_leads_177 : decode cX16_leads 177 = .ok (.if_icmp .eq 55, 3) := by decide +kernel
theorem dX16_leads_180 : decode cX16_leads 180 = .ok (.lload_n 3, 1) := by decide +kernel
theorem dX16_leads_181 : decode cX16_leads 181 = .ok (.iload 10, 2) := by decide +kernel
theorem dX16_leads_183 : decode cX16_leads 183 = .ok (.invokestatic 444, 3) := by decide +kernel
theorem dX16_leads_186 : decode cX16_leads 186 = .ok (.ifCond .eq 46, 3) := by decide +kernel
theorem dX16_leads_189 : decode cX16_leads 189 = .ok (.iload 8, 2) := by decide +kernel
theorem dX16_leads_191 : decode cX16_leads 191 = .ok (.aload_n 0, 1) := by decide +kernel
theorem dX16_leads_192 : decode cX16_leads 192 = .ok (.getfield 427, 3) := by decide +kernel
theorem dX16_leads_195 : decode cX16_leads 195 = .ok (.if_icmp .lt 16, 3) := by decide +kernel
theorem dX16_leads_198 : decode cX16_leads 198 = .ok (.aload_n 0, 1) := by decide +kernel
theorem dX16_leads_199 : decode cX16_leads 199 = .ok (.getfield 97, 3) := by decide +kernel
theorem dX16_leads_202 : decode cX16_leads 202 = .ok (.iload 10, 2) := by decide +kernel
theorem dX16_leads_204 : decode cX16_leads 204 = .ok (.iaload, 1) := by decide +kernel
theorem dX16_leads_205 : decode cX16_leads 205 = .ok (.ifCond .ne 6, 3) := by decide +kernel
theorem dX16_leads_208 : decode cX16_leads 208 = .ok (.goto 24, 3) := by decide +kernel
theorem dX16_leads_211 : decode cX16_leads 211 = .ok (.aload_n 0, 1) := by decide +kernel
theorem dX16_leads_212 : decode cX16_leads 212 = .ok (.getfield 100, 3) := by decide +kernel
theorem dX16_leads_215 : decode cX16_leads 215 = .ok (.iload 9, 2) := by decide +kernel
theorem dX16_leads_217 : decode cX16_leads 217 = .ok (.iload 8, 2) := by decide +kernel
theorem dX16_leads_219 : decode cX16_leads 219 = .ok (.iastore, 1) := by decide +kernel
theorem dX16_leads_220 : decode cX16_leads 220 = .ok (.aload_n 0, 1) := by decide +kernel
theorem dX16_leads_221 : decode cX16_leads 221 = .ok (.getfield 103, 3) := by decide +kernel
theorem dX16_leads_224 : decode cX16_leads 224 = .ok (.iload 6, 2) := by decide +kernel
theorem dX16_leads_226 : decode cX16_leads 226 = .ok (.iload 9, 2) := by decide +kernel
theorem dX16_leads_228 : decode cX16_leads 228 = .ok (.iastore, 1) := by decide +kernel
theorem dX16_leads_229 : decode cX16_leads 229 = .ok (.iinc 6 1, 3) := by decide +kernel
theorem dX16_leads_232 : decode cX16_leads 232 = .ok (.iinc 9 1, 3) := by decide +kernel
theorem dX16_leads_235 : decode cX16_leads 235 = .ok (.goto (-165), 3) := by decide +kernel
theorem dX16_leads_238 : decode cX16_leads 238 = .ok (.iinc 7 1, 3) := by decide +kernel
theorem dX16_leads_241 : decode cX16_leads 241 = .ok (.goto (-190), 3) := by decide +kernel
theorem dX16_leads_244 : decode cX16_leads 244 = .ok (.aload_n 0, 1) := by decide +kernel
theorem dX16_leads_245 : decode cX16_leads 245 = .ok (.getfield 100, 3) := by decide +kernel
theorem dX16_leads_248 : decode cX16_leads 248 = .ok (.iload_n 2, 1) := by decide +kernel
theorem dX16_leads_249 : decode cX16_leads 249 = .ok (.iaload, 1) := by decide +kernel
theorem dX16_leads_250 : decode cX16_leads 250 = .ok (.iconst (-1), 1) := by decide +kernel
theorem dX16_leads_251 : decode cX16_leads 251 = .ok (.if_icmp .eq 7, 3) := by decide +kernel
theorem dX16_leads_254 : decode cX16_leads 254 = .ok (.iconst 1, 1) := by decide +kernel
theorem dX16_leads_255 : decode cX16_leads 255 = .ok (.goto 4, 3) := by decide +kernel
theorem dX16_leads_258 : decode cX16_leads 258 = .ok (.iconst 0, 1) := by decide +kernel
theorem dX16_leads_259 : decode cX16_leads 259 = .ok (.ireturn, 1) := by decide +kernel
theorem dX16_goes_0 : decode cX16_goes 0 = .ok (.iconst 0, 1) := by decide +kernel
theorem dX16_goes_1 : decode cX16_goes 1 = .ok (.istore 7, 2) := by decide +kernel
theorem dX16_goes_3 : decode cX16_goes 3 = .ok (.iload 7, 2) := by decide +kernel
theorem dX16_goes_5 : decode cX16_goes 5 = .ok (.aload_n 0, 1) := by decide +kernel
theorem dX16_goes_6 : decode cX16_goes 6 = .ok (.getfield 427, 3) := by decide +kernel
theorem dX16_goes_9 : decode cX16_goes 9 = .ok (.aload_n 0, 1) := by decide +kernel
theorem dX16_goes_10 : decode cX16_goes 10 = .ok (.getfield 430, 3) := by decide +kernel
theorem dX16_goes_13 : decode cX16_goes 13 = .ok (.imul, 1) := by decide +kernel
theorem dX16_goes_14 : decode cX16_goes 14 = .ok (.if_icmp .ge 23, 3) := by decide +kernel
theorem dX16_goes_17 : decode cX16_goes 17 = .ok (.aload_n 0, 1) := by decide +kernel
theorem dX16_goes_18 : decode cX16_goes 18 = .ok (.getfield 97, 3) := by decide +kernel
theorem dX16_goes_21 : decode cX16_goes 21 = .ok (.iload 7, 2) := by decide +kernel
theorem dX16_goes_23 : decode cX16_goes 23 = .ok (.aload_n 0, 1) := by decide +kernel
theorem dX16_goes_24 : decode cX16_goes 24 = .ok (.getfield 91, 3) := by decide +kernel
theorem dX16_goes_27 : decode cX16_goes 27 = .ok (.iload 7, 2) := by decide +kernel
theorem dX16_goes_29 : decode cX16_goes 29 = .ok (.iaload, 1) := by decide +kernel
theorem dX16_goes_30 : decode cX16_goes 30 = .ok (.iastore, 1) := by decide +kernel
theorem dX16_goes_31 : decode cX16_goes 31 = .ok (.iinc 7 1, 3) := by decide +kernel
theorem dX16_goes_34 : decode cX16_goes 34 = .ok (.goto (-31), 3) := by decide +kernel
theorem dX16_goes_37 : decode cX16_goes 37 = .ok (.iconst 0, 1) := by decide +kernel
theorem dX16_goes_38 : decode cX16_goes 38 = .ok (.istore 7, 2) := by decide +kernel
theorem dX16_goes_40 : decode cX16_goes 40 = .ok (.iload 7, 2) := by decide +kernel
theorem dX16_goes_42 : decode cX16_goes 42 = .ok (.iload 6, 2) := by decide +kernel
theorem dX16_goes_44 : decode cX16_goes 44 = .ok (.if_icmp .ge 111, 3) := by decide +kernel
theorem dX16_goes_47 : decode cX16_goes 47 = .ok (.aload_n 0, 1) := by decide +kernel
theorem dX16_goes_48 : decode cX16_goes 48 = .ok (.iload_n 1, 1) := by decide +kernel
theorem dX16_goes_49 : decode cX16_goes 49 = .ok (.iload_n 2, 1) := by decide +kernel
theorem dX16_goes_50 : decode cX16_goes 50 = .ok (.lload_n 3, 1) := by decide +kernel
theorem dX16_goes_51 : decode cX16_goes 51 = .ok (.iload 5, 2) := by decide +kernel
theorem dX16_goes_53 : decode cX16_goes 53 = .ok (.invokevirtual 448, 3) := by decide +kernel
theorem dX16_goes_56 : decode cX16_goes 56 = .ok (.ifCond .eq 99, 3) := by decide +kernel
theorem dX16_goes_59 : decode cX16_goes 59 = .ok (.iload_n 2, 1) := by decide +kernel
theorem dX16_goes_60 : decode cX16_goes 60 = .ok (.istore 8, 2) := by decide +kernel
theorem dX16_goes_62 : decode cX16_goes 62 = .ok (.iload 8, 2) := by decide +kernel
theorem dX16_goes_64 : decode cX16_goes 64 = .ok (.iload_n 1, 1) := by decide +kernel
theorem dX16_goes_65 : decode cX16_goes 65 = .ok (.if_icmp .eq 84, 3) := by decide +kernel
theorem dX16_goes_68 : decode cX16_goes 68 = .ok (.aload_n 0, 1) := by decide +kernel
theorem dX16_goes_69 : decode cX16_goes 69 = .ok (.getfield 100, 3) := by decide +kernel
theorem dX16_goes_72 : decode cX16_goes 72 = .ok (.iload 8, 2) := by decide +kernel
theorem dX16_goes_74 : decode cX16_goes 74 = .ok (.iaload, 1) := by decide +kernel
theorem dX16_goes_75 : decode cX16_goes 75 = .ok (.istore 9, 2) := by decide +kernel
theorem dX16_goes_77 : decode cX16_goes 77 = .ok (.iload 9, 2) := by decide +kernel
theorem dX16_goes_79 : decode cX16_goes 79 = .ok (.aload_n 0, 1) := by decide +kernel
theorem dX16_goes_80 : decode cX16_goes 80 = .ok (.getfield 427, 3) := by decide +kernel
theorem dX16_goes_83 : decode cX16_goes 83 = .ok (.if_icmp .ge 30, 3) := by decide +kernel
theorem dX16_goes_86 : decode cX16_goes 86 = .ok (.aload_n 0, 1) := by decide +kernel
theorem dX16_goes_87 : decode cX16_goes 87 = .ok (.getfield 97, 3) := by decide +kernel
theorem dX16_goes_90 : decode cX16_goes 90 = .ok (.aload_n 0, 1) := by decide +kernel
theorem dX16_goes_91 : decode cX16_goes 91 = .ok (.getfield 430, 3) := by decide +kernel
theorem dX16_goes_94 : decode cX16_goes 94 = .ok (.iload 9, 2) := by decide +kernel
theorem dX16_goes_96 : decode cX16_goes 96 = .ok (.imul, 1) := by decide +kernel
theorem dX16_goes_97 : decode cX16_goes 97 = .ok (.iload 8, 2) := by decide +kernel
theorem dX16_goes_99 : decode cX16_goes 99 = .ok (.iadd, 1) := by decide +kernel
theorem dX16_goes_100 : decode cX16_goes 100 = .ok (.aload_n 0, 1) := by decide +kernel
theorem dX16_goes_101 : decode cX16_goes 101 = .ok (.getfield 427, 3) := by decide +kernel
theorem dX16_goes_104 : decode cX16_goes 104 = .ok (.isub, 1) := by decide +kernel
theorem dX16_goes_105 : decode cX16_goes 105 = .ok (.dup2, 1) := by decide +kernel
theorem dX16_goes_106 : decode cX16_goes 106 = .ok (.iaload, 1) := by decide +kernel
theorem dX16_goes_107 : decode cX16_goes 107 = .ok (.iconst 1, 1) := by decide +kernel
theorem dX16_goes_108 : decode cX16_goes 108 = .ok (.iadd, 1) := by decide +kernel
theorem dX16_goes_109 : decode cX16_goes 109 = .ok (.iastore, 1) := by decide +kernel
theorem dX16_goes_110 : decode cX16_goes 110 = .ok (.goto 27, 3) := by decide +kernel
theorem dX16_goes_113 : decode cX16_goes 113 = .ok (.aload_n 0, 1) := by decide +kernel
theorem dX16_goes_114 : decode cX16_goes 114 = .ok (.getfield 97, 3) := by decide +kernel
theorem dX16_goes_117 : decode cX16_goes 117 = .ok (.aload_n 0, 1) := by decide +kernel
theorem dX16_goes_118 : decode cX16_goes 118 = .ok (.getfield 430, 3) := by decide +kernel
theorem dX16_goes_121 : decode cX16_goes 121 = .ok (.iload 8, 2) := by decide +kernel
theorem dX16_goes_123 : decode cX16_goes 123 = .ok (.imul, 1) := by decide +kernel
theorem dX16_goes_124 : decode cX16_goes 124 = .ok (.iload 9, 2) := by decide +kernel
theorem dX16_goes_126 : decode cX16_goes 126 = .ok (.iadd, 1) := by decide +kernel
theorem dX16_goes_127 : decode cX16_goes 127 = .ok (.aload_n 0, 1) := by decide +kernel
theorem dX16_goes_128 : decode cX16_goes 128 = .ok (.getfield 427, 3) := by decide +kernel
theorem dX16_goes_131 : decode cX16_goes 131 = .ok (.isub, 1) := by decide +kernel
theorem dX16_goes_132 : decode cX16_goes 132 = .ok (.dup2, 1) := by decide +kernel
theorem dX16_goes_133 : decode cX16_goes 133 = .ok (.iaload, 1) := by decide +kernel
theorem dX16_goes_134 : decode cX16_goes 134 = .ok (.iconst 1, 1) := by decide +kernel
theorem dX16_goes_135 : decode cX16_goes 135 = .ok (.isub, 1) := by decide +kernel
theorem dX16_goes_136 : decode cX16_goes 136 = .ok (.iastore, 1) := by decide +kernel
theorem dX16_goes_137 : decode cX16_goes 137 = .ok (.aload_n 0, 1) := by decide +kernel
theorem dX16_goes_138 : decode cX16_goes 138 = .ok (.getfield 100, 3) := by decide +kernel
theorem dX16_goes_141 : decode cX16_goes 141 = .ok (.iload 8, 2) := by decide +kernel
theorem dX16_goes_143 : decode cX16_goes 143 = .ok (.iaload, 1) := by decide +kernel
theorem dX16_goes_144 : decode cX16_goes 144 = .ok (.istore 8, 2) := by decide +kernel
theorem dX16_goes_146 : decode cX16_goes 146 = .ok (.goto (-84), 3) := by decide +kernel
theorem dX16_goes_149 : decode cX16_goes 149 = .ok (.iinc 7 1, 3) := by decide +kernel
theorem dX16_goes_152 : decode cX16_goes 152 = .ok (.goto (-112), 3) := by decide +kernel
theorem dX16_goes_155 : decode cX16_goes 155 = .ok (.iload 7, 2) := by decide +kernel
theorem dX16_goes_157 : decode cX16_goes 157 = .ok (.ireturn, 1) := by decide +kernel
theorem dX16_highOf_0 : decode cX16_highOf 0 = .ok (.aload_n 0, 1) := by decide +kernel
theorem dX16_highOf_1 : decode cX16_highOf 1 = .ok (.getfield 91, 3) := by decide +kernel
theorem dX16_highOf_4 : decode cX16_highOf 4 = .ok (.iload_n 3, 1) := by decide +kernel
theorem dX16_highOf_5 : decode cX16_highOf 5 = .ok (.iaload, 1) := by decide +kernel
theorem dX16_highOf_6 : decode cX16_highOf 6 = .ok (.aload_n 0, 1) := by decide +kernel
theorem dX16_highOf_7 : decode cX16_highOf 7 = .ok (.aload_n 0, 1) := by decide +kernel
theorem dX16_highOf_8 : decode cX16_highOf 8 = .ok (.getfield 427, 3) := by decide +kernel
theorem dX16_highOf_11 : decode cX16_highOf 11 = .ok (.iload_n 3, 1) := by decide +kernel
theorem dX16_highOf_12 : decode cX16_highOf 12 = .ok (.aload_n 0, 1) := by decide +kernel
theorem dX16_highOf_13 : decode cX16_highOf 13 = .ok (.getfield 430, 3) := by decide +kernel
theorem dX16_highOf_16 : decode cX16_highOf 16 = .ok (.irem, 1) := by decide +kernel
theorem dX16_highOf_17 : decode cX16_highOf 17 = .ok (.iadd, 1) := by decide +kernel
theorem dX16_highOf_18 : decode cX16_highOf 18 = .ok (.iload_n 3, 1) := by decide +kernel
theorem dX16_highOf_19 : decode cX16_highOf 19 = .ok (.aload_n 0, 1) := by decide +kernel
theorem dX16_highOf_20 : decode cX16_highOf 20 = .ok (.getfield 430, 3) := by decide +kernel
theorem dX16_highOf_23 : decode cX16_highOf 23 = .ok (.idiv, 1) := by decide +kernel
theorem dX16_highOf_24 : decode cX16_highOf 24 = .ok (.lload_n 1, 1) := by decide +kernel
theorem dX16_highOf_25 : decode cX16_highOf 25 = .ok (.iload_n 3, 1) := by decide +kernel
theorem dX16_highOf_26 : decode cX16_highOf 26 = .ok (.bipush 60, 2) := by decide +kernel
theorem dX16_highOf_28 : decode cX16_highOf 28 = .ok (.invokevirtual 452, 3) := by decide +kernel
theorem dX16_highOf_31 : decode cX16_highOf 31 = .ok (.iadd, 1) := by decide +kernel
theorem dX16_highOf_32 : decode cX16_highOf 32 = .ok (.ireturn, 1) := by decide +kernel
theorem dX16_lowOf_0 : decode cX16_lowOf 0 = .ok (.aload_n 0, 1) := by decide +kernel
theorem dX16_lowOf_1 : decode cX16_lowOf 1 = .ok (.getfield 91, 3) := by decide +kernel
theorem dX16_lowOf_4 : decode cX16_lowOf 4 = .ok (.iload_n 3, 1) := by decide +kernel
theorem dX16_lowOf_5 : decode cX16_lowOf 5 = .ok (.iaload, 1) := by decide +kernel
theorem dX16_lowOf_6 : decode cX16_lowOf 6 = .ok (.aload_n 0, 1) := by decide +kernel
theorem dX16_lowOf_7 : decode cX16_lowOf 7 = .ok (.iload_n 3, 1) := by decide +kernel
theorem dX16_lowOf_8 : decode cX16_lowOf 8 = .ok (.aload_n 0, 1) := by decide +kernel
theorem dX16_lowOf_9 : decode cX16_lowOf 9 = .ok (.getfield 430, 3) := by decide +kernel
theorem dX16_lowOf_12 : decode cX16_lowOf 12 = .ok (.idiv, 1) := by decide +kernel
theorem dX16_lowOf_13 : decode cX16_lowOf 13 = .ok (.aload_n 0, 1) := by decide +kernel
theorem dX16_lowOf_14 : decode cX16_lowOf 14 = .ok (.getfield 427, 3) := by decide +kernel
theorem dX16_lowOf_17 : decode cX16_lowOf 17 = .ok (.iload_n 3, 1) := by decide +kernel
theorem dX16_lowOf_18 : decode cX16_lowOf 18 = .ok (.aload_n 0, 1) := by decide +kernel
theorem dX16_lowOf_19 : decode cX16_lowOf 19 = .ok (.getfield 430, 3) := by decide +kernel
theorem dX16_lowOf_22 : decode cX16_lowOf 22 = .ok (.irem, 1) := by decide +kernel
theorem dX16_lowOf_23 : decode cX16_lowOf 23 = .ok (.iadd, 1) := by decide +kernel
theorem dX16_lowOf_24 : decode cX16_lowOf 24 = .ok (.lload_n 1, 1) := by decide +kernel
theorem dX16_lowOf_25 : decode cX16_lowOf 25 = .ok (.iload_n 3, 1) := by decide +kernel
theorem dX16_lowOf_26 : decode cX16_lowOf 26 = .ok (.aload_n 0, 1) := by decide +kernel
theorem dX16_lowOf_27 : decode cX16_lowOf 27 = .ok (.getfield 91, 3) := by decide +kernel
theorem dX16_lowOf_30 : decode cX16_lowOf 30 = .ok (.iload_n 3, 1) := by decide +kernel
theorem dX16_lowOf_31 : decode cX16_lowOf 31 = .ok (.iaload, 1) := by decide +kernel
theorem dX16_lowOf_32 : decode cX16_lowOf 32 = .ok (.invokevirtual 452, 3) := by decide +kernel
theorem dX16_lowOf_35 : decode cX16_lowOf 35 = .ok (.isub, 1) := by decide +kernel
theorem dX16_lowOf_36 : decode cX16_lowOf 36 = .ok (.ireturn, 1) := by decide +kernel
theorem dX16_areBits_0 : decode cX16_areBits 0 = .ok (.lload_n 1, 1) := by decide +kernel
theorem dX16_areBits_1 : decode cX16_areBits 1 = .ok (.lconst 0, 1) := by decide +kernel
theorem dX16_areBits_2 : decode cX16_areBits 2 = .ok (.lcmp, 1) := by decide +kernel
theorem dX16_areBits_3 : decode cX16_areBits 3 = .ok (.ifCond .lt 23, 3) := by decide +kernel
theorem dX16_areBits_6 : decode cX16_areBits 6 = .ok (.lload_n 1, 1) := by decide +kernel
theorem dX16_areBits_7 : decode cX16_areBits 7 = .ok (.aload_n 0, 1) := by decide +kernel
theorem dX16_areBits_8 : decode cX16_areBits 8 = .ok (.getfield 427, 3) := by decide +kernel
theorem dX16_areBits_11 : decode cX16_areBits 11 = .ok (.aload_n 0, 1) := by decide +kernel
theorem dX16_areBits_12 : decode cX16_areBits 12 = .ok (.getfield 430, 3) := by decide +kernel
theorem dX16_areBits_15 : decode cX16_areBits 15 = .ok (.imul, 1) := by decide +kernel
theorem dX16_areBits_16 : decode cX16_areBits 16 = .ok (.lshr, 1) := by decide +kernel
theorem dX16_areBits_17 : decode cX16_areBits 17 = .ok (.lconst 0, 1) := by decide +kernel
theorem dX16_areBits_18 : decode cX16_areBits 18 = .ok (.lcmp, 1) := by decide +kernel
theorem dX16_areBits_19 : decode cX16_areBits 19 = .ok (.ifCond .ne 7, 3) := by decide +kernel
theorem dX16_areBits_22 : decode cX16_areBits 22 = .ok (.iconst 1, 1) := by decide +kernel
theorem dX16_areBits_23 : decode cX16_areBits 23 = .ok (.goto 4, 3) := by decide +kernel
theorem dX16_areBits_26 : decode cX16_areBits 26 = .ok (.iconst 0, 1) := by decide +kernel
theorem dX16_areBits_27 : decode cX16_areBits 27 = .ok (.ireturn, 1) := by decide +kernel
theorem dX16_edge_0 : decode cX16_edge 0 = .ok (.aload_n 0, 1) := by decide +kernel
theorem dX16_edge_1 : decode cX16_edge 1 = .ok (.iconst 0, 1) := by decide +kernel
theorem dX16_edge_2 : decode cX16_edge 2 = .ok (.putfield 109, 3) := by decide +kernel
theorem dX16_edge_5 : decode cX16_edge 5 = .ok (.aload_n 0, 1) := by decide +kernel
theorem dX16_edge_6 : decode cX16_edge 6 = .ok (.iload_n 1, 1) := by decide +kernel
theorem dX16_edge_7 : decode cX16_edge 7 = .ok (.iload_n 2, 1) := by decide +kernel
theorem dX16_edge_8 : decode cX16_edge 8 = .ok (.iload_n 3, 1) := by decide +kernel
theorem dX16_edge_9 : decode cX16_edge 9 = .ok (.invokevirtual 393, 3) := by decide +kernel
theorem dX16_edge_12 : decode cX16_edge 12 = .ok (.ifCond .ne 9, 3) := by decide +kernel
theorem dX16_edge_15 : decode cX16_edge 15 = .ok (.aload_n 0, 1) := by decide +kernel
theorem dX16_edge_16 : decode cX16_edge 16 = .ok (.iconst 1, 1) := by decide +kernel
theorem dX16_edge_17 : decode cX16_edge 17 = .ok (.invokevirtual 293, 3) := by decide +kernel
theorem dX16_edge_20 : decode cX16_edge 20 = .ok (.ireturn, 1) := by decide +kernel
theorem dX16_edge_21 : decode cX16_edge 21 = .ok (.aload_n 0, 1) := by decide +kernel
theorem dX16_edge_22 : decode cX16_edge 22 = .ok (.aload_n 0, 1) := by decide +kernel
theorem dX16_edge_23 : decode cX16_edge 23 = .ok (.getfield 15, 3) := by decide +kernel
theorem dX16_edge_26 : decode cX16_edge 26 = .ok (.iload_n 1, 1) := by decide +kernel
theorem dX16_edge_27 : decode cX16_edge 27 = .ok (.aaload, 1) := by decide +kernel
theorem dX16_edge_28 : decode cX16_edge 28 = .ok (.invokevirtual 433, 3) := by decide +kernel
theorem dX16_edge_31 : decode cX16_edge 31 = .ok (.ifCond .ne 9, 3) := by decide +kernel
theorem dX16_edge_34 : decode cX16_edge 34 = .ok (.aload_n 0, 1) := by decide +kernel
theorem dX16_edge_35 : decode cX16_edge 35 = .ok (.iconst 5, 1) := by decide +kernel
theorem dX16_edge_36 : decode cX16_edge 36 = .ok (.invokevirtual 293, 3) := by decide +kernel
theorem dX16_edge_39 : decode cX16_edge 39 = .ok (.ireturn, 1) := by decide +kernel
theorem dX16_edge_40 : decode cX16_edge 40 = .ok (.aload_n 0, 1) := by decide +kernel
theorem dX16_edge_41 : decode cX16_edge 41 = .ok (.aload_n 0, 1) := by decide +kernel
theorem dX16_edge_42 : decode cX16_edge 42 = .ok (.getfield 15, 3) := by decide +kernel
theorem dX16_edge_45 : decode cX16_edge 45 = .ok (.iload_n 1, 1) := by decide +kernel
theorem dX16_edge_46 : decode cX16_edge 46 = .ok (.aaload, 1) := by decide +kernel
theorem dX16_edge_47 : decode cX16_edge 47 = .ok (.aload_n 0, 1) := by decide +kernel
theorem dX16_edge_48 : decode cX16_edge 48 = .ok (.getfield 91, 3) := by decide +kernel
theorem dX16_edge_51 : decode cX16_edge 51 = .ok (.invokevirtual 437, 3) := by decide +kernel
theorem dX16_edge_54 : decode cX16_edge 54 = .ok (.aload_n 0, 1) := by decide +kernel
theorem dX16_edge_55 : decode cX16_edge 55 = .ok (.getfield 430, 3) := by decide +kernel
theorem dX16_edge_58 : decode cX16_edge 58 = .ok (.iload_n 2, 1) := by decide +kernel
theorem dX16_edge_59 : decode cX16_edge 59 = .ok (.imul, 1) := by decide +kernel
theorem dX16_edge_60 : decode cX16_edge 60 = .ok (.iload_n 3, 1) := by decide +kernel
theorem dX16_edge_61 : decode cX16_edge 61 = .ok (.iadd, 1) := by decide +kernel
theorem dX16_edge_62 : decode cX16_edge 62 = .ok (.istore 7, 2) := by decide +kernel
theorem dX16_edge_64 : decode cX16_edge 64 = .ok (.lload 4, 2) := by decide +kernel
theorem dX16_edge_66 : decode cX16_edge 66 = .ok (.iload 7, 2) := by decide +kernel
theorem dX16_edge_68 : decode cX16_edge 68 = .ok (.invokestatic 444, 3) := by decide +kernel
theorem dX16_edge_71 : decode cX16_edge 71 = .ok (.ifCond .ne 9, 3) := by decide +kernel
theorem dX16_edge_74 : decode cX16_edge 74 = .ok (.aload_n 0, 1) := by decide +kernel
theorem dX16_edge_75 : decode cX16_edge 75 = .ok (.iconst 5, 1) := by decide +kernel
theorem dX16_edge_76 : decode cX16_edge 76 = .ok (.invokevirtual 293, 3) := by decide +kernel
theorem dX16_edge_79 : decode cX16_edge 79 = .ok (.ireturn, 1) := by decide +kernel
theorem dX16_edge_80 : decode cX16_edge 80 = .ok (.aload_n 0, 1) := by decide +kernel
theorem dX16_edge_81 : decode cX16_edge 81 = .ok (.lload 4, 2) := by decide +kernel
theorem dX16_edge_83 : decode cX16_edge 83 = .ok (.invokevirtual 456, 3) := by decide +kernel
theorem dX16_edge_86 : decode cX16_edge 86 = .ok (.ifCond .ne 9, 3) := by decide +kernel
theorem dX16_edge_89 : decode cX16_edge 89 = .ok (.aload_n 0, 1) := by decide +kernel
theorem dX16_edge_90 : decode cX16_edge 90 = .ok (.iconst 2, 1) := by decide +kernel
theorem dX16_edge_91 : decode cX16_edge 91 = .ok (.invokevirtual 293, 3) := by decide +kernel
theorem dX16_edge_94 : decode cX16_edge 94 = .ok (.ireturn, 1) := by decide +kernel
theorem dX16_edge_95 : decode cX16_edge 95 = .ok (.aload_n 0, 1) := by decide +kernel
theorem dX16_edge_96 : decode cX16_edge 96 = .ok (.iload 6, 2) := by decide +kernel
theorem dX16_edge_98 : decode cX16_edge 98 = .ok (.ifCond .eq 14, 3) := by decide +kernel
theorem dX16_edge_101 : decode cX16_edge 101 = .ok (.aload_n 0, 1) := by decide +kernel
theorem dX16_edge_102 : decode cX16_edge 102 = .ok (.lload 4, 2) := by decide +kernel
theorem dX16_edge_104 : decode cX16_edge 104 = .ok (.iload 7, 2) := by decide +kernel
theorem dX16_edge_106 : decode cX16_edge 106 = .ok (.invokevirtual 460, 3) := by decide +kernel
theorem dX16_edge_109 : decode cX16_edge 109 = .ok (.goto 11, 3) := by decide +kernel
theorem dX16_edge_112 : decode cX16_edge 112 = .ok (.aload_n 0, 1) := by decide +kernel
theorem dX16_edge_113 : decode cX16_edge 113 = .ok (.lload 4, 2) := by decide +kernel
theorem dX16_edge_115 : decode cX16_edge 115 = .ok (.iload 7, 2) := by decide +kernel
theorem dX16_edge_117 : decode cX16_edge 117 = .ok (.invokevirtual 464, 3) := by decide +kernel
theorem dX16_edge_120 : decode cX16_edge 120 = .ok (.invokevirtual 323, 3) := by decide +kernel
theorem dX16_edge_123 : decode cX16_edge 123 = .ok (.ireturn, 1) := by decide +kernel
theorem dX16_isWide_0 : decode cX16_isWide 0 = .ok (.iconst 1, 1) := by decide +kernel
theorem dX16_isWide_1 : decode cX16_isWide 1 = .ok (.istore_n 3, 1) := by decide +kernel
theorem dX16_isWide_2 : decode cX16_isWide 2 = .ok (.iconst 0, 1) := by decide +kernel
theorem dX16_isWide_3 : decode cX16_isWide 3 = .ok (.istore 4, 2) := by decide +kernel
theorem dX16_isWide_5 : decode cX16_isWide 5 = .ok (.iload 4, 2) := by decide +kernel
theorem dX16_isWide_7 : decode cX16_isWide 7 = .ok (.aload_n 0, 1) := by decide +kernel
theorem dX16_isWide_8 : decode cX16_isWide 8 = .ok (.getfield 427, 3) := by decide +kernel
theorem dX16_isWide_11 : decode cX16_isWide 11 = .ok (.aload_n 0, 1) := by decide +kernel
theorem dX16_isWide_12 : decode cX16_isWide 12 = .ok (.getfield 430, 3) := by decide +kernel
theorem dX16_isWide_15 : decode cX16_isWide 15 = .ok (.imul, 1) := by decide +kernel
theorem dX16_isWide_16 : decode cX16_isWide 16 = .ok (.if_icmp .ge 59, 3) := by decide +kernel
theorem dX16_isWide_19 : decode cX16_isWide 19 = .ok (.iload_n 3, 1) := by decide +kernel
theorem dX16_isWide_20 : decode cX16_isWide 20 = .ok (.ifCond .eq 55, 3) := by decide +kernel
theorem dX16_isWide_23 : decode cX16_isWide 23 = .ok (.aload_n 0, 1) := by decide +kernel
theorem dX16_isWide_24 : decode cX16_isWide 24 = .ok (.iload 4, 2) := by decide +kernel
theorem dX16_isWide_26 : decode cX16_isWide 26 = .ok (.invokevirtual 441, 3) := by decide +kernel
theorem dX16_isWide_29 : decode cX16_isWide 29 = .ok (.ifCond .eq 34, 3) := by decide +kernel
theorem dX16_isWide_32 : decode cX16_isWide 32 = .ok (.lload_n 1, 1) := by decide +kernel
theorem dX16_isWide_33 : decode cX16_isWide 33 = .ok (.iload 4, 2) := by decide +kernel
theorem dX16_isWide_35 : decode cX16_isWide 35 = .ok (.invokestatic 444, 3) := by decide +kernel
theorem dX16_isWide_38 : decode cX16_isWide 38 = .ok (.ifCond .eq 29, 3) := by decide +kernel
theorem dX16_isWide_41 : decode cX16_isWide 41 = .ok (.aload_n 0, 1) := by decide +kernel
theorem dX16_isWide_42 : decode cX16_isWide 42 = .ok (.lload_n 1, 1) := by decide +kernel
theorem dX16_isWide_43 : decode cX16_isWide 43 = .ok (.iload 4, 2) := by decide +kernel
theorem dX16_isWide_45 : decode cX16_isWide 45 = .ok (.invokevirtual 460, 3) := by decide +kernel
theorem dX16_isWide_48 : decode cX16_isWide 48 = .ok (.aload_n 0, 1) := by decide +kernel
theorem dX16_isWide_49 : decode cX16_isWide 49 = .ok (.lload_n 1, 1) := by decide +kernel
theorem dX16_isWide_50 : decode cX16_isWide 50 = .ok (.iload 4, 2) := by decide +kernel
theorem dX16_isWide_52 : decode cX16_isWide 52 = .ok (.invokevirtual 464, 3) := by decide +kernel
theorem dX16_isWide_55 : decode cX16_isWide 55 = .ok (.isub, 1) := by decide +kernel
theorem dX16_isWide_56 : decode cX16_isWide 56 = .ok (.aload_n 0, 1) := by decide +kernel
theorem dX16_isWide_57 : decode cX16_isWide 57 = .ok (.getfield 85, 3) := by decide +kernel
theorem dX16_isWide_60 : decode cX16_isWide 60 = .ok (.if_icmp .lt 7, 3) := by decide +kernel
theorem dX16_isWide_63 : decode cX16_isWide 63 = .ok (.iconst 1, 1) := by decide +kernel
theorem dX16_isWide_64 : decode cX16_isWide 64 = .ok (.goto 4, 3) := by decide +kernel
theorem dX16_isWide_67 : decode cX16_isWide 67 = .ok (.iconst 0, 1) := by decide +kernel
theorem dX16_isWide_68 : decode cX16_isWide 68 = .ok (.istore_n 3, 1) := by decide +kernel
theorem dX16_isWide_69 : decode cX16_isWide 69 = .ok (.iinc 4 1, 3) := by decide +kernel
theorem dX16_isWide_72 : decode cX16_isWide 72 = .ok (.goto (-67), 3) := by decide +kernel
theorem dX16_isWide_75 : decode cX16_isWide 75 = .ok (.iload_n 3, 1) := by decide +kernel
theorem dX16_isWide_76 : decode cX16_isWide 76 = .ok (.ireturn, 1) := by decide +kernel
theorem dX16_wide_0 : decode cX16_wide 0 = .ok (.aload_n 0, 1) := by decide +kernel
theorem dX16_wide_1 : decode cX16_wide 1 = .ok (.iconst 0, 1) := by decide +kernel
theorem dX16_wide_2 : decode cX16_wide 2 = .ok (.putfield 109, 3) := by decide +kernel
theorem dX16_wide_5 : decode cX16_wide 5 = .ok (.aload_n 0, 1) := by decide +kernel
theorem dX16_wide_6 : decode cX16_wide 6 = .ok (.iload_n 1, 1) := by decide +kernel
theorem dX16_wide_7 : decode cX16_wide 7 = .ok (.invokevirtual 379, 3) := by decide +kernel
theorem dX16_wide_10 : decode cX16_wide 10 = .ok (.ifCond .ne 9, 3) := by decide +kernel
theorem dX16_wide_13 : decode cX16_wide 13 = .ok (.aload_n 0, 1) := by decide +kernel
theorem dX16_wide_14 : decode cX16_wide 14 = .ok (.iconst 1, 1) := by decide +kernel
theorem dX16_wide_15 : decode cX16_wide 15 = .ok (.invokevirtual 293, 3) := by decide +kernel
theorem dX16_wide_18 : decode cX16_wide 18 = .ok (.ireturn, 1) := by decide +kernel
theorem dX16_wide_19 : decode cX16_wide 19 = .ok (.aload_n 0, 1) := by decide +kernel
theorem dX16_wide_20 : decode cX16_wide 20 = .ok (.aload_n 0, 1) := by decide +kernel
theorem dX16_wide_21 : decode cX16_wide 21 = .ok (.getfield 15, 3) := by decide +kernel
theorem dX16_wide_24 : decode cX16_wide 24 = .ok (.iload_n 1, 1) := by decide +kernel
theorem dX16_wide_25 : decode cX16_wide 25 = .ok (.aaload, 1) := by decide +kernel
theorem dX16_wide_26 : decode cX16_wide 26 = .ok (.invokevirtual 433, 3) := by decide +kernel
theorem dX16_wide_29 : decode cX16_wide 29 = .ok (.ifCond .ne 9, 3) := by decide +kernel
theorem dX16_wide_32 : decode cX16_wide 32 = .ok (.aload_n 0, 1) := by decide +kernel
theorem dX16_wide_33 : decode cX16_wide 33 = .ok (.iconst 5, 1) := by decide +kernel
theorem dX16_wide_34 : decode cX16_wide 34 = .ok (.invokevirtual 293, 3) := by decide +kernel
theorem dX16_wide_37 : decode cX16_wide 37 = .ok (.ireturn, 1) := by decide +kernel
theorem dX16_wide_38 : decode cX16_wide 38 = .ok (.aload_n 0, 1) := by decide +kernel
theorem dX16_wide_39 : decode cX16_wide 39 = .ok (.aload_n 0, 1) := by decide +kernel
theorem dX16_wide_40 : decode cX16_wide 40 = .ok (.getfield 15, 3) := by decide +kernel
theorem dX16_wide_43 : decode cX16_wide 43 = .ok (.iload_n 1, 1) := by decide +kernel
theorem dX16_wide_44 : decode cX16_wide 44 = .ok (.aaload, 1) := by decide +kernel
theorem dX16_wide_45 : decode cX16_wide 45 = .ok (.aload_n 0, 1) := by decide +kernel
theorem dX16_wide_46 : decode cX16_wide 46 = .ok (.getfield 91, 3) := by decide +kernel
theorem dX16_wide_49 : decode cX16_wide 49 = .ok (.invokevirtual 437, 3) := by decide +kernel
theorem dX16_wide_52 : decode cX16_wide 52 = .ok (.aload_n 0, 1) := by decide +kernel
theorem dX16_wide_53 : decode cX16_wide 53 = .ok (.lload_n 2, 1) := by decide +kernel
theorem dX16_wide_54 : decode cX16_wide 54 = .ok (.invokevirtual 456, 3) := by decide +kernel
theorem dX16_wide_57 : decode cX16_wide 57 = .ok (.ifCond .ne 9, 3) := by decide +kernel
theorem dX16_wide_60 : decode cX16_wide 60 = .ok (.aload_n 0, 1) := by decide +kernel
theorem dX16_wide_61 : decode cX16_wide 61 = .ok (.iconst 2, 1) := by decide +kernel
theorem dX16_wide_62 : decode cX16_wide 62 = .ok (.invokevirtual 293, 3) := by decide +kernel
theorem dX16_wide_65 : decode cX16_wide 65 = .ok (.ireturn, 1) := by decide +kernel
theorem dX16_wide_66 : decode cX16_wide 66 = .ok (.aload_n 0, 1) := by decide +kernel
theorem dX16_wide_67 : decode cX16_wide 67 = .ok (.aload_n 0, 1) := by decide +kernel
theorem dX16_wide_68 : decode cX16_wide 68 = .ok (.lload_n 2, 1) := by decide +kernel
theorem dX16_wide_69 : decode cX16_wide 69 = .ok (.invokevirtual 467, 3) := by decide +kernel
theorem dX16_wide_72 : decode cX16_wide 72 = .ok (.ifCond .eq 7, 3) := by decide +kernel
theorem dX16_wide_75 : decode cX16_wide 75 = .ok (.iconst 1, 1) := by decide +kernel
theorem dX16_wide_76 : decode cX16_wide 76 = .ok (.goto 4, 3) := by decide +kernel
theorem dX16_wide_79 : decode cX16_wide 79 = .ok (.iconst 0, 1) := by decide +kernel
theorem dX16_wide_80 : decode cX16_wide 80 = .ok (.invokevirtual 323, 3) := by decide +kernel
theorem dX16_wide_83 : decode cX16_wide 83 = .ok (.ireturn, 1) := by decide +kernel
theorem dX16_leastLost_0 : decode cX16_leastLost 0 = .ok (.aload_n 0, 1) := by decide +kernel
theorem dX16_leastLost_1 : decode cX16_leastLost 1 = .ok (.iload_n 1, 1) := by decide +kernel
theorem dX16_leastLost_2 : decode cX16_leastLost 2 = .ok (.putfield 112, 3) := by decide +kernel
theorem dX16_leastLost_5 : decode cX16_leastLost 5 = .ok (.aload_n 0, 1) := by decide +kernel
theorem dX16_leastLost_6 : decode cX16_leastLost 6 = .ok (.iconst (-1), 1) := by decide +kernel
theorem dX16_leastLost_7 : decode cX16_leastLost 7 = .ok (.putfield 9, 3) := by decide +kernel
theorem dX16_leastLost_10 : decode cX16_leastLost 10 = .ok (.bipush (-3), 2) := by decide +kernel
theorem dX16_leastLost_12 : decode cX16_leastLost 12 = .ok (.ireturn, 1) := by decide +kernel
theorem dX16_least_0 : decode cX16_least 0 = .ok (.aload_n 0, 1) := by decide +kernel
theorem dX16_least_1 : decode cX16_least 1 = .ok (.iconst 0, 1) := by decide +kernel
theorem dX16_least_2 : decode cX16_least 2 = .ok (.putfield 109, 3) := by decide +kernel
theorem dX16_least_5 : decode cX16_least 5 = .ok (.aload_n 0, 1) := by decide +kernel
theorem dX16_least_6 : decode cX16_least 6 = .ok (.iload_n 1, 1) := by decide +kernel
theorem dX16_least_7 : decode cX16_least 7 = .ok (.invokevirtual 379, 3) := by decide +kernel
theorem dX16_least_10 : decode cX16_least 10 = .ok (.ifCond .ne 9, 3) := by decide +kernel
theorem dX16_least_13 : decode cX16_least 13 = .ok (.aload_n 0, 1) := by decide +kernel
theorem dX16_least_14 : decode cX16_least 14 = .ok (.iconst 1, 1) := by decide +kernel
theorem dX16_least_15 : decode cX16_least 15 = .ok (.invokevirtual 470, 3) := by decide +kernel
theorem dX16_least_18 : decode cX16_least 18 = .ok (.ireturn, 1) := by decide +kernel
theorem dX16_least_19 : decode cX16_least 19 = .ok (.aload_n 0, 1) := by decide +kernel
theorem dX16_least_20 : decode cX16_least 20 = .ok (.aload_n 0, 1) := by decide +kernel
theorem dX16_least_21 : decode cX16_least 21 = .ok (.getfield 15, 3) := by decide +kernel
theorem dX16_least_24 : decode cX16_least 24 = .ok (.iload_n 1, 1) := by decide +kernel
theorem dX16_least_25 : decode cX16_least 25 = .ok (.aaload, 1) := by decide +kernel
theorem dX16_least_26 : decode cX16_least 26 = .ok (.invokevirtual 433, 3) := by decide +kernel
theorem dX16_least_29 : decode cX16_least 29 = .ok (.ifCond .eq 35, 3) := by decide +kernel
theorem dX16_least_32 : decode cX16_least 32 = .ok (.aload_n 0, 1) := by decide +kernel
theorem dX16_least_33 : decode cX16_least 33 = .ok (.aload_n 0, 1) := by decide +kernel
theorem dX16_least_34 : decode cX16_least 34 = .ok (.getfield 15, 3) := by decide +kernel
theorem dX16_least_37 : decode cX16_least 37 = .ok (.iload_n 1, 1) := by decide +kernel
theorem dX16_least_38 : decode cX16_least 38 = .ok (.aaload, 1) := by decide +kernel
theorem dX16_least_39 : decode cX16_least 39 = .ok (.getfield 279, 3) := by decide +kernel
theorem dX16_least_42 : decode cX16_least 42 = .ok (.invokevirtual 382, 3) := by decide +kernel
theorem dX16_least_45 : decode cX16_least 45 = .ok (.aload_n 0, 1) := by decide +kernel
theorem dX16_least_46 : decode cX16_least 46 = .ok (.aload_n 0, 1) := by decide +kernel
theorem dX16_least_47 : decode cX16_least 47 = .ok (.getfield 15, 3) := by decide +kernel
theorem dX16_least_50 : decode cX16_least 50 = .ok (.iload_n 1, 1) := by decide +kernel
theorem dX16_least_51 : decode cX16_least 51 = .ok (.aaload, 1) := by decide +kernel
theorem dX16_least_52 : decode cX16_least 52 = .ok (.getfield 281, 3) := by decide +kernel
theorem dX16_least_55 : decode cX16_least 55 = .ok (.invokevirtual 382, 3) := by decide +kernel
theorem dX16_least_58 : decode cX16_least 58 = .ok (.imul, 1) := by decide +kernel
theorem dX16_least_59 : decode cX16_least 59 = .ok (.bipush 12, 2) := by decide +kernel
theorem dX16_least_61 : decode cX16_least 61 = .ok (.if_icmp .le 9, 3) := by decide +kernel
theorem dX16_least_64 : decode cX16_least 64 = .ok (.aload_n 0, 1) := by decide +kernel
theorem dX16_least_65 : decode cX16_least 65 = .ok (.iconst 5, 1) := by decide +kernel
theorem dX16_least_66 : decode cX16_least 66 = .ok (.invokevirtual 470, 3) := by decide +kernel
theorem dX16_least_69 : decode cX16_least 69 = .ok (.ireturn, 1) := by decide +kernel
theorem dX16_least_70 : decode cX16_least 70 = .ok (.aload_n 0, 1) := by decide +kernel
theorem dX16_least_71 : decode cX16_least 71 = .ok (.aload_n 0, 1) := by decide +kernel
theorem dX16_least_72 : decode cX16_least 72 = .ok (.getfield 15, 3) := by decide +kernel
theorem dX16_least_75 : decode cX16_least 75 = .ok (.iload_n 1, 1) := by decide +kernel
theorem dX16_least_76 : decode cX16_least 76 = .ok (.aaload, 1) := by decide +kernel
theorem dX16_least_77 : decode cX16_least 77 = .ok (.aload_n 0, 1) := by decide +kernel
theorem dX16_least_78 : decode cX16_least 78 = .ok (.getfield 91, 3) := by decide +kernel
theorem dX16_least_81 : decode cX16_least 81 = .ok (.invokevirtual 437, 3) := by decide +kernel
theorem dX16_least_84 : decode cX16_least 84 = .ok (.bipush (-2), 2) := by decide +kernel
theorem dX16_least_86 : decode cX16_least 86 = .ok (.istore_n 2, 1) := by decide +kernel
theorem dX16_least_87 : decode cX16_least 87 = .ok (.iconst 0, 1) := by decide +kernel
theorem dX16_least_88 : decode cX16_least 88 = .ok (.istore_n 3, 1) := by decide +kernel
theorem dX16_least_89 : decode cX16_least 89 = .ok (.iconst 0, 1) := by decide +kernel
theorem dX16_least_90 : decode cX16_least 90 = .ok (.istore 4, 2) := by decide +kernel
theorem dX16_least_92 : decode cX16_least 92 = .ok (.iload 4, 2) := by decide +kernel
theorem dX16_least_94 : decode cX16_least 94 = .ok (.iconst 1, 1) := by decide +kernel
theorem dX16_least_95 : decode cX16_least 95 = .ok (.aload_n 0, 1) := by decide +kernel
theorem dX16_least_96 : decode cX16_least 96 = .ok (.getfield 427, 3) := by decide +kernel
theorem dX16_least_99 : decode cX16_least 99 = .ok (.aload_n 0, 1) := by decide +kernel
theorem dX16_least_100 : decode cX16_least 100 = .ok (.getfield 430, 3) := by decide +kernel
theorem dX16_least_103 : decode cX16_least 103 = .ok (.imul, 1) := by decide +kernel
theorem dX16_least_104 : decode cX16_least 104 = .ok (.ishl, 1) := by decide +kernel
theorem dX16_least_105 : decode cX16_least 105 = .ok (.if_icmp .ge 123, 3) := by decide +kernel
theorem dX16_least_108 : decode cX16_least 108 = .ok (.iconst 0, 1) := by decide +kernel
theorem dX16_least_109 : decode cX16_least 109 = .ok (.istore 5, 2) := by decide +kernel
theorem dX16_least_111 : decode cX16_least 111 = .ok (.iconst 0, 1) := by decide +kernel
theorem dX16_least_112 : decode cX16_least 112 = .ok (.istore 6, 2) := by decide +kernel
theorem dX16_least_114 : decode cX16_least 114 = .ok (.iload 6, 2) := by decide +kernel
theorem dX16_least_116 : decode cX16_least 116 = .ok (.aload_n 0, 1) := by decide +kernel
theorem dX16_least_117 : decode cX16_least 117 = .ok (.getfield 427, 3) := by decide +kernel
theorem dX16_least_120 : decode cX16_least 120 = .ok (.aload_n 0, 1) := by decide +kernel
theorem dX16_least_121 : decode cX16_least 121 = .ok (.getfield 430, 3) := by decide +kernel
theorem dX16_least_124 : decode cX16_least 124 = .ok (.imul, 1) := by decide +kernel
theorem dX16_least_125 : decode cX16_least 125 = .ok (.if_icmp .ge 36, 3) := by decide +kernel
theorem dX16_least_128 : decode cX16_least 128 = .ok (.iload 5, 2) := by decide +kernel
theorem dX16_least_130 : decode cX16_least 130 = .ok (.iload 4, 2) := by decide +kernel
theorem dX16_least_132 : decode cX16_least 132 = .ok (.iload 6, 2) := by decide +kernel
theorem dX16_least_134 : decode cX16_least 134 = .ok (.ishr, 1) := by decide +kernel
theorem dX16_least_135 : decode cX16_least 135 = .ok (.iconst 1, 1) := by decide +kernel
theorem dX16_least_136 : decode cX16_least 136 = .ok (.iand, 1) := by decide +kernel
theorem dX16_least_137 : decode cX16_least 137 = .ok (.iconst 1, 1) := by decide +kernel
theorem dX16_least_138 : decode cX16_least 138 = .ok (.if_icmp .ne 13, 3) := by decide +kernel
theorem dX16_least_141 : decode cX16_least 141 = .ok (.aload_n 0, 1) := by decide +kernel
theorem dX16_least_142 : decode cX16_least 142 = .ok (.getfield 91, 3) := by decide +kernel
theorem dX16_least_145 : decode cX16_least 145 = .ok (.iload 6, 2) := by decide +kernel
theorem dX16_least_147 : decode cX16_least 147 = .ok (.iaload, 1) := by decide +kernel
theorem dX16_least_148 : decode cX16_least 148 = .ok (.goto 4, 3) := by decide +kernel
theorem dX16_least_151 : decode cX16_least 151 = .ok (.iconst 0, 1) := by decide +kernel
theorem dX16_least_152 : decode cX16_least 152 = .ok (.iadd, 1) := by decide +kernel
theorem dX16_least_153 : decode cX16_least 153 = .ok (.istore 5, 2) := by decide +kernel
theorem dX16_least_155 : decode cX16_least 155 = .ok (.iinc 6 1, 3) := by decide +kernel
theorem dX16_least_158 : decode cX16_least 158 = .ok (.goto (-44), 3) := by decide +kernel
theorem dX16_least_161 : decode cX16_least 161 = .ok (.iload_n 2, 1) := by decide +kernel
theorem dX16_least_162 : decode cX16_least 162 = .ok (.bipush (-2), 2) := by decide +kernel
theorem dX16_least_164 : decode cX16_least 164 = .ok (.if_icmp .eq 27, 3) := by decide +kernel
theorem dX16_least_167 : decode cX16_least 167 = .ok (.iload 5, 2) := by decide +kernel
theorem dX16_least_169 : decode cX16_least 169 = .ok (.iload_n 3, 1) := by decide +kernel
theorem dX16_least_170 : decode cX16_least 170 = .ok (.if_icmp .lt 21, 3) := by decide +kernel
theorem dX16_least_173 : decode cX16_least 173 = .ok (.iload 5, 2) := by decide +kernel
theorem dX16_least_175 : decode cX16_least 175 = .ok (.iload_n 3, 1) := by decide +kernel
theorem dX16_least_176 : decode cX16_least 176 = .ok (.if_icmp .ne 19, 3) := by decide +kernel
theorem dX16_least_179 : decode cX16_least 179 = .ok (.iload 4, 2) := by decide +kernel
theorem dX16_least_181 : decode cX16_least 181 = .ok (.invokestatic 369, 3) := by decide +kernel
theorem dX16_least_184 : decode cX16_least 184 = .ok (.iload_n 2, 1) := by decide +kernel
theorem dX16_least_185 : decode cX16_least 185 = .ok (.invokestatic 369, 3) := by decide +kernel
theorem dX16_least_188 : decode cX16_least 188 = .ok (.if_icmp .ge 7, 3) := by decide +kernel
theorem dX16_least_191 : decode cX16_least 191 = .ok (.iconst 1, 1) := by decide +kernel
theorem dX16_least_192 : decode cX16_least 192 = .ok (.goto 4, 3) := by decide +kernel
theorem dX16_least_195 : decode cX16_least 195 = .ok (.iconst 0, 1) := by decide +kernel
theorem dX16_least_196 : decode cX16_least 196 = .ok (.istore 6, 2) := by decide +kernel
theorem dX16_least_198 : decode cX16_least 198 = .ok (.iload 6, 2) := by decide +kernel
theorem dX16_least_200 : decode cX16_least 200 = .ok (.ifCond .eq 22, 3) := by decide +kernel
theorem dX16_least_203 : decode cX16_least 203 = .ok (.aload_n 0, 1) := by decide +kernel
theorem dX16_least_204 : decode cX16_least 204 = .ok (.iload 4, 2) := by decide +kernel
theorem dX16_least_206 : decode cX16_least 206 = .ok (.i2l, 1) := by decide +kernel
theorem dX16_least_207 : decode cX16_least 207 = .ok (.invokevirtual 467, 3) := by decide +kernel
theorem dX16_least_210 : decode cX16_least 210 = .ok (.ifCond .ne 6, 3) := by decide +kernel
theorem dX16_least_213 : decode cX16_least 213 = .ok (.goto 9, 3) := by decide +kernel
theorem dX16_least_216 : decode cX16_least 216 = .ok (.iload 4, 2) := by decide +kernel
theorem dX16_least_218 : decode cX16_least 218 = .ok (.istore_n 2, 1) := by decide +kernel
theorem dX16_least_219 : decode cX16_least 219 = .ok (.iload 5, 2) := by decide +kernel
theorem dX16_least_221 : decode cX16_least 221 = .ok (.istore_n 3, 1) := by decide +kernel
theorem dX16_least_222 : decode cX16_least 222 = .ok (.iinc 4 1, 3) := by decide +kernel
theorem dX16_least_225 : decode cX16_least 225 = .ok (.goto (-133), 3) := by decide +kernel
theorem dX16_least_228 : decode cX16_least 228 = .ok (.aload_n 0, 1) := by decide +kernel
theorem dX16_least_229 : decode cX16_least 229 = .ok (.iload_n 2, 1) := by decide +kernel
theorem dX16_least_230 : decode cX16_least 230 = .ok (.invokevirtual 323, 3) := by decide +kernel
theorem dX16_least_233 : decode cX16_least 233 = .ok (.ireturn, 1) := by decide +kernel
theorem dX16_differing_0 : decode cX16_differing 0 = .ok (.aload_n 0, 1) := by decide +kernel
theorem dX16_differing_1 : decode cX16_differing 1 = .ok (.iconst 0, 1) := by decide +kernel
theorem dX16_differing_2 : decode cX16_differing 2 = .ok (.putfield 109, 3) := by decide +kernel
theorem dX16_differing_5 : decode cX16_differing 5 = .ok (.aload_n 0, 1) := by decide +kernel
theorem dX16_differing_6 : decode cX16_differing 6 = .ok (.iload_n 1, 1) := by decide +kernel
theorem dX16_differing_7 : decode cX16_differing 7 = .ok (.invokevirtual 379, 3) := by decide +kernel
theorem dX16_differing_10 : decode cX16_differing 10 = .ok (.ifCond .eq 11, 3) := by decide +kernel
theorem dX16_differing_13 : decode cX16_differing 13 = .ok (.aload_n 0, 1) := by decide +kernel
theorem dX16_differing_14 : decode cX16_differing 14 = .ok (.iload_n 2, 1) := by decide +kernel
theorem dX16_differing_15 : decode cX16_differing 15 = .ok (.invokevirtual 379, 3) := by decide +kernel
theorem dX16_differing_18 : decode cX16_differing 18 = .ok (.ifCond .ne 9, 3) := by decide +kernel
theorem dX16_differing_21 : decode cX16_differing 21 = .ok (.aload_n 0, 1) := by decide +kernel
theorem dX16_differing_22 : decode cX16_differing 22 = .ok (.iconst 1, 1) := by decide +kernel
theorem dX16_differing_23 : decode cX16_differing 23 = .ok (.invokevirtual 293, 3) := by decide +kernel
theorem dX16_differing_26 : decode cX16_differing 26 = .ok (.ireturn, 1) := by decide +kernel
theorem dX16_differing_27 : decode cX16_differing 27 = .ok (.aload_n 0, 1) := by decide +kernel
theorem dX16_differing_28 : decode cX16_differing 28 = .ok (.getfield 15, 3) := by decide +kernel
theorem dX16_differing_31 : decode cX16_differing 31 = .ok (.iload_n 1, 1) := by decide +kernel
theorem dX16_differing_32 : decode cX16_differing 32 = .ok (.aaload, 1) := by decide +kernel
theorem dX16_differing_33 : decode cX16_differing 33 = .ok (.astore_n 3, 1) := by decide +kernel
theorem dX16_differing_34 : decode cX16_differing 34 = .ok (.aload_n 0, 1) := by decide +kernel
theorem dX16_differing_35 : decode cX16_differing 35 = .ok (.getfield 15, 3) := by decide +kernel
theorem dX16_differing_38 : decode cX16_differing 38 = .ok (.iload_n 2, 1) := by decide +kernel
theorem dX16_differing_39 : decode cX16_differing 39 = .ok (.aaload, 1) := by decide +kernel
theorem dX16_differing_40 : decode cX16_differing 40 = .ok (.astore 4, 2) := by decide +kernel
theorem dX16_differing_42 : decode cX16_differing 42 = .ok (.aload_n 3, 1) := by decide +kernel
theorem dX16_differing_43 : decode cX16_differing 43 = .ok (.getfield 277, 3) := by decide +kernel
theorem dX16_differing_46 : decode cX16_differing 46 = .ok (.iconst (-1), 1) := by decide +kernel
theorem dX16_differing_47 : decode cX16_differing 47 = .ok (.if_icmp .ne 36, 3) := by decide +kernel
theorem dX16_differing_50 : decode cX16_differing 50 = .ok (.aload 4, 2) := by decide +kernel
theorem dX16_differing_52 : decode cX16_differing 52 = .ok (.getfield 277, 3) := by decide +kernel
theorem dX16_differing_55 : decode cX16_differing 55 = .ok (.iconst (-1), 1) := by decide +kernel
theorem dX16_differing_56 : decode cX16_differing 56 = .ok (.if_icmp .ne 27, 3) := by decide +kernel
theorem dX16_differing_59 : decode cX16_differing 59 = .ok (.aload_n 3, 1) := by decide +kernel
theorem dX16_differing_60 : decode cX16_differing 60 = .ok (.getfield 279, 3) := by decide +kernel
theorem dX16_differing_63 : decode cX16_differing 63 = .ok (.aload 4, 2) := by decide +kernel
theorem dX16_differing_65 : decode cX16_differing 65 = .ok (.getfield 279, 3) := by decide +kernel
theorem dX16_differing_68 : decode cX16_differing 68 = .ok (.if_icmp .ne 15, 3) := by decide +kernel
theorem dX16_differing_71 : decode cX16_differing 71 = .ok (.aload_n 3, 1) := by decide +kernel
theorem dX16_differing_72 : decode cX16_differing 72 = .ok (.getfield 281, 3) := by decide +kernel
theorem dX16_differing_75 : decode cX16_differing 75 = .ok (.aload 4, 2) := by decide +kernel
theorem dX16_differing_77 : decode cX16_differing 77 = .ok (.getfield 281, 3) := by decide +kernel
theorem dX16_differing_80 : decode cX16_differing 80 = .ok (.if_icmp .eq 9, 3) := by decide +kernel
theorem dX16_differing_83 : decode cX16_differing 83 = .ok (.aload_n 0, 1) := by decide +kernel
theorem dX16_differing_84 : decode cX16_differing 84 = .ok (.iconst 5, 1) := by decide +kernel
theorem dX16_differing_85 : decode cX16_differing 85 = .ok (.invokevirtual 293, 3) := by decide +kernel
theorem dX16_differing_88 : decode cX16_differing 88 = .ok (.ireturn, 1) := by decide +kernel
theorem dX16_differing_89 : decode cX16_differing 89 = .ok (.aload_n 0, 1) := by decide +kernel
theorem dX16_differing_90 : decode cX16_differing 90 = .ok (.aload_n 3, 1) := by decide +kernel
theorem dX16_differing_91 : decode cX16_differing 91 = .ok (.aload_n 0, 1) := by decide +kernel
theorem dX16_differing_92 : decode cX16_differing 92 = .ok (.getfield 91, 3) := by decide +kernel
theorem dX16_differing_95 : decode cX16_differing 95 = .ok (.invokevirtual 437, 3) := by decide +kernel
theorem dX16_differing_98 : decode cX16_differing 98 = .ok (.aload_n 0, 1) := by decide +kernel
theorem dX16_differing_99 : decode cX16_differing 99 = .ok (.aload 4, 2) := by decide +kernel
theorem dX16_differing_101 : decode cX16_differing 101 = .ok (.aload_n 0, 1) := by decide +kernel
theorem dX16_differing_102 : decode cX16_differing 102 = .ok (.getfield 94, 3) := by decide +kernel
theorem dX16_differing_105 : decode cX16_differing 105 = .ok (.invokevirtual 437, 3) := by decide +kernel
theorem dX16_differing_108 : decode cX16_differing 108 = .ok (.iconst 0, 1) := by decide +kernel
theorem dX16_differing_109 : decode cX16_differing 109 = .ok (.istore 5, 2) := by decide +kernel
theorem dX16_differing_111 : decode cX16_differing 111 = .ok (.iconst 0, 1) := by decide +kernel
theorem dX16_differing_112 : decode cX16_differing 112 = .ok (.istore 6, 2) := by decide +kernel
theorem dX16_differing_114 : decode cX16_differing 114 = .ok (.iload 6, 2) := by decide +kernel
theorem dX16_differing_116 : decode cX16_differing 116 = .ok (.aload_n 0, 1) := by decide +kernel
theorem dX16_differing_117 : decode cX16_differing 117 = .ok (.getfield 427, 3) := by decide +kernel
theorem dX16_differing_120 : decode cX16_differing 120 = .ok (.aload_n 0, 1) := by decide +kernel
theorem dX16_differing_121 : decode cX16_differing 121 = .ok (.getfield 430, 3) := by decide +kernel
theorem dX16_differing_124 : decode cX16_differing 124 = .ok (.imul, 1) := by decide +kernel
theorem dX16_differing_125 : decode cX16_differing 125 = .ok (.if_icmp .ge 50, 3) := by decide +kernel
theorem dX16_differing_128 : decode cX16_differing 128 = .ok (.iload 5, 2) := by decide +kernel
theorem dX16_differing_130 : decode cX16_differing 130 = .ok (.aload_n 0, 1) := by decide +kernel
theorem dX16_differing_131 : decode cX16_differing 131 = .ok (.getfield 91, 3) := by decide +kernel
theorem dX16_differing_134 : decode cX16_differing 134 = .ok (.iload 6, 2) := by decide +kernel
theorem dX16_differing_136 : decode cX16_differing 136 = .ok (.iaload, 1) := by decide +kernel
theorem dX16_differing_137 : decode cX16_differing 137 = .ok (.aload_n 0, 1) := by decide +kernel
theorem dX16_differing_138 : decode cX16_differing 138 = .ok (.getfield 94, 3) := by decide +kernel
theorem dX16_differing_141 : decode cX16_differing 141 = .ok (.iload 6, 2) := by decide +kernel
theorem dX16_differing_143 : decode cX16_differing 143 = .ok (.iaload, 1) := by decide +kernel
theorem dX16_differing_144 : decode cX16_differing 144 = .ok (.isub, 1) := by decide +kernel
theorem dX16_differing_145 : decode cX16_differing 145 = .ok (.invokestatic 473, 3) := by decide +kernel
theorem dX16_differing_148 : decode cX16_differing 148 = .ok (.iconst 1, 1) := by decide +kernel
theorem dX16_differing_149 : decode cX16_differing 149 = .ok (.aload_n 0, 1) := by decide +kernel
theorem dX16_differing_150 : decode cX16_differing 150 = .ok (.getfield 82, 3) := by decide +kernel
theorem dX16_differing_153 : decode cX16_differing 153 = .ok (.iconst 1, 1) := by decide +kernel
theorem dX16_differing_154 : decode cX16_differing 154 = .ok (.isub, 1) := by decide +kernel
theorem dX16_differing_155 : decode cX16_differing 155 = .ok (.invokestatic 231, 3) := by decide +kernel
theorem dX16_differing_158 : decode cX16_differing 158 = .ok (.ifCond .eq 7, 3) := by decide +kernel
theorem dX16_differing_161 : decode cX16_differing 161 = .ok (.iconst 1, 1) := by decide +kernel
theorem dX16_differing_162 : decode cX16_differing 162 = .ok (.goto 4, 3) := by decide +kernel
theorem dX16_differing_165 : decode cX16_differing 165 = .ok (.iconst 0, 1) := by decide +kernel
theorem dX16_differing_166 : decode cX16_differing 166 = .ok (.iadd, 1) := by decide +kernel
theorem dX16_differing_167 : decode cX16_differing 167 = .ok (.istore 5, 2) := by decide +kernel
theorem dX16_differing_169 : decode cX16_differing 169 = .ok (.iinc 6 1, 3) := by decide +kernel
theorem dX16_differing_172 : decode cX16_differing 172 = .ok (.goto (-58), 3) := by decide +kernel
theorem dX16_differing_175 : decode cX16_differing 175 = .ok (.aload_n 0, 1) := by decide +kernel
theorem dX16_differing_176 : decode cX16_differing 176 = .ok (.iload 5, 2) := by decide +kernel
theorem dX16_differing_178 : decode cX16_differing 178 = .ok (.invokevirtual 323, 3) := by decide +kernel
theorem dX16_differing_181 : decode cX16_differing 181 = .ok (.ireturn, 1) := by decide +kernel
theorem dX16_lot_0 : decode cX16_lot 0 = .ok (.aload_n 0, 1) := by decide +kernel
theorem dX16_lot_1 : decode cX16_lot 1 = .ok (.iconst 0, 1) := by decide +kernel
theorem dX16_lot_2 : decode cX16_lot 2 = .ok (.putfield 109, 3) := by decide +kernel
theorem dX16_lot_5 : decode cX16_lot 5 = .ok (.aload_n 0, 1) := by decide +kernel
theorem dX16_lot_6 : decode cX16_lot 6 = .ok (.getfield 274, 3) := by decide +kernel
theorem dX16_lot_9 : decode cX16_lot 9 = .ok (.ifnonnull 9, 3) := by decide +kernel
theorem dX16_lot_12 : decode cX16_lot 12 = .ok (.aload_n 0, 1) := by decide +kernel
theorem dX16_lot_13 : decode cX16_lot 13 = .ok (.iconst 1, 1) := by decide +kernel
theorem dX16_lot_14 : decode cX16_lot 14 = .ok (.invokevirtual 293, 3) := by decide +kernel
theorem dX16_lot_17 : decode cX16_lot 17 = .ok (.ireturn, 1) := by decide +kernel
theorem dX16_lot_18 : decode cX16_lot 18 = .ok (.iload_n 1, 1) := by decide +kernel
theorem dX16_lot_19 : decode cX16_lot 19 = .ok (.bipush (-9), 2) := by decide +kernel
theorem dX16_lot_21 : decode cX16_lot 21 = .ok (.bipush 9, 2) := by decide +kernel
theorem dX16_lot_23 : decode cX16_lot 23 = .ok (.invokestatic 231, 3) := by decide +kernel
theorem dX16_lot_26 : decode cX16_lot 26 = .ok (.ifCond .ne 9, 3) := by decide +kernel
theorem dX16_lot_29 : decode cX16_lot 29 = .ok (.aload_n 0, 1) := by decide +kernel
theorem dX16_lot_30 : decode cX16_lot 30 = .ok (.iconst 2, 1) := by decide +kernel
theorem dX16_lot_31 : decode cX16_lot 31 = .ok (.invokevirtual 293, 3) := by decide +kernel
theorem dX16_lot_34 : decode cX16_lot 34 = .ok (.ireturn, 1) := by decide +kernel
theorem dX16_lot_35 : decode cX16_lot 35 = .ok (.aload_n 0, 1) := by decide +kernel
theorem dX16_lot_36 : decode cX16_lot 36 = .ok (.getfield 317, 3) := by decide +kernel
theorem dX16_lot_39 : decode cX16_lot 39 = .ok (.bipush 100, 2) := by decide +kernel
theorem dX16_lot_41 : decode cX16_lot 41 = .ok (.if_icmp .ne 9, 3) := by decide +kernel
theorem dX16_lot_44 : decode cX16_lot 44 = .ok (.aload_n 0, 1) := by decide +kernel
theorem dX16_lot_45 : decode cX16_lot 45 = .ok (.iconst 3, 1) := by decide +kernel
theorem dX16_lot_46 : decode cX16_lot 46 = .ok (.invokevirtual 293, 3) := by decide +kernel
theorem dX16_lot_49 : decode cX16_lot 49 = .ok (.ireturn, 1) := by decide +kernel
theorem dX16_lot_50 : decode cX16_lot 50 = .ok (.aload_n 0, 1) := by decide +kernel
theorem dX16_lot_51 : decode cX16_lot 51 = .ok (.getfield 106, 3) := by decide +kernel
theorem dX16_lot_54 : decode cX16_lot 54 = .ok (.aload_n 0, 1) := by decide +kernel
theorem dX16_lot_55 : decode cX16_lot 55 = .ok (.getfield 317, 3) := by decide +kernel
theorem dX16_lot_58 : decode cX16_lot 58 = .ok (.iload_n 1, 1) := by decide +kernel
theorem dX16_lot_59 : decode cX16_lot 59 = .ok (.iastore, 1) := by decide +kernel
theorem dX16_lot_60 : decode cX16_lot 60 = .ok (.aload_n 0, 1) := by decide +kernel
theorem dX16_lot_61 : decode cX16_lot 61 = .ok (.dup, 1) := by decide +kernel
theorem dX16_lot_62 : decode cX16_lot 62 = .ok (.getfield 317, 3) := by decide +kernel
theorem dX16_lot_65 : decode cX16_lot 65 = .ok (.iconst 1, 1) := by decide +kernel
theorem dX16_lot_66 : decode cX16_lot 66 = .ok (.iadd, 1) := by decide +kernel
theorem dX16_lot_67 : decode cX16_lot 67 = .ok (.putfield 317, 3) := by decide +kernel
theorem dX16_lot_70 : decode cX16_lot 70 = .ok (.aload_n 0, 1) := by decide +kernel
theorem dX16_lot_71 : decode cX16_lot 71 = .ok (.aload_n 0, 1) := by decide +kernel
theorem dX16_lot_72 : decode cX16_lot 72 = .ok (.getfield 317, 3) := by decide +kernel
theorem dX16_lot_75 : decode cX16_lot 75 = .ok (.invokevirtual 323, 3) := by decide +kernel
theorem dX16_lot_78 : decode cX16_lot 78 = .ok (.ireturn, 1) := by decide +kernel
theorem dX16_noise_0 : decode cX16_noise 0 = .ok (.aload_n 0, 1) := by decide +kernel
theorem dX16_noise_1 : decode cX16_noise 1 = .ok (.iconst 0, 1) := by decide +kernel
theorem dX16_noise_2 : decode cX16_noise 2 = .ok (.putfield 109, 3) := by decide +kernel
theorem dX16_noise_5 : decode cX16_noise 5 = .ok (.aload_n 0, 1) := by decide +kernel
theorem dX16_noise_6 : decode cX16_noise 6 = .ok (.iload_n 1, 1) := by decide +kernel
theorem dX16_noise_7 : decode cX16_noise 7 = .ok (.iload_n 2, 1) := by decide +kernel
theorem dX16_noise_8 : decode cX16_noise 8 = .ok (.iload_n 3, 1) := by decide +kernel
theorem dX16_noise_9 : decode cX16_noise 9 = .ok (.invokevirtual 393, 3) := by decide +kernel
theorem dX16_noise_12 : decode cX16_noise 12 = .ok (.ifCond .ne 9, 3) := by decide +kernel
theorem dX16_noise_15 : decode cX16_noise 15 = .ok (.aload_n 0, 1) := by decide +kernel
theorem dX16_noise_16 : decode cX16_noise 16 = .ok (.iconst 1, 1) := by decide +kernel
theorem dX16_noise_17 : decode cX16_noise 17 = .ok (.invokevirtual 396, 3) := by decide +kernel
theorem dX16_noise_20 : decode cX16_noise 20 = .ok (.lreturn, 1) := by decide +kernel
theorem dX16_noise_21 : decode cX16_noise 21 = .ok (.aload_n 0, 1) := by decide +kernel
theorem dX16_noise_22 : decode cX16_noise 22 = .ok (.getfield 15, 3) := by decide +kernel
theorem dX16_noise_25 : decode cX16_noise 25 = .ok (.iload_n 1, 1) := by decide +kernel
theorem dX16_noise_26 : decode cX16_noise 26 = .ok (.aaload, 1) := by decide +kernel
theorem dX16_noise_27 : decode cX16_noise 27 = .ok (.astore 4, 2) := by decide +kernel
theorem dX16_noise_29 : decode cX16_noise 29 = .ok (.aload_n 0, 1) := by decide +kernel
theorem dX16_noise_30 : decode cX16_noise 30 = .ok (.aload 4, 2) := by decide +kernel
theorem dX16_noise_32 : decode cX16_noise 32 = .ok (.getfield 281, 3) := by decide +kernel
theorem dX16_noise_35 : decode cX16_noise 35 = .ok (.invokevirtual 382, 3) := by decide +kernel
theorem dX16_noise_38 : decode cX16_noise 38 = .ok (.iload_n 2, 1) := by decide +kernel
theorem dX16_noise_39 : decode cX16_noise 39 = .ok (.imul, 1) := by decide +kernel
theorem dX16_noise_40 : decode cX16_noise 40 = .ok (.iload_n 3, 1) := by decide +kernel
theorem dX16_noise_41 : decode cX16_noise 41 = .ok (.iadd, 1) := by decide +kernel
theorem dX16_noise_42 : decode cX16_noise 42 = .ok (.istore 5, 2) := by decide +kernel
theorem dX16_noise_44 : decode cX16_noise 44 = .ok (.aload_n 0, 1) := by decide +kernel
theorem dX16_noise_45 : decode cX16_noise 45 = .ok (.aload 4, 2) := by decide +kernel
theorem dX16_noise_47 : decode cX16_noise 47 = .ok (.iload_n 2, 1) := by decide +kernel
theorem dX16_noise_48 : decode cX16_noise 48 = .ok (.iload_n 3, 1) := by decide +kernel
theorem dX16_noise_49 : decode cX16_noise 49 = .ok (.aload_n 0, 1) := by decide +kernel
theorem dX16_noise_50 : decode cX16_noise 50 = .ok (.getfield 314, 3) := by decide +kernel
theorem dX16_noise_53 : decode cX16_noise 53 = .ok (.iconst 0, 1) := by decide +kernel
theorem dX16_noise_54 : decode cX16_noise 54 = .ok (.invokevirtual 400, 3) := by decide +kernel
theorem dX16_noise_57 : decode cX16_noise 57 = .ok (.lstore 6, 2) := by decide +kernel
theorem dX16_noise_59 : decode cX16_noise 59 = .ok (.aload 4, 2) := by decide +kernel
theorem dX16_noise_61 : decode cX16_noise 61 = .ok (.getfield 476, 3) := by decide +kernel
theorem dX16_noise_64 : decode cX16_noise 64 = .ok (.iload 5, 2) := by decide +kernel
theorem dX16_noise_66 : decode cX16_noise 66 = .ok (.baload, 1) := by decide +kernel
theorem dX16_noise_67 : decode cX16_noise 67 = .ok (.ifCond .eq 30, 3) := by decide +kernel
theorem dX16_noise_70 : decode cX16_noise 70 = .ok (.aload 4, 2) := by decide +kernel
theorem dX16_noise_72 : decode cX16_noise 72 = .ok (.getfield 479, 3) := by decide +kernel
theorem dX16_noise_75 : decode cX16_noise 75 = .ok (.iload 5, 2) := by decide +kernel
theorem dX16_noise_77 : decode cX16_noise 77 = .ok (.laload, 1) := by decide +kernel
theorem dX16_noise_78 : decode cX16_noise 78 = .ok (.lload 6, 2) := by decide +kernel
theorem dX16_noise_80 : decode cX16_noise 80 = .ok (.lcmp, 1) := by decide +kernel
theorem dX16_noise_81 : decode cX16_noise 81 = .ok (.ifCond .ne 16, 3) := by decide +kernel
theorem dX16_noise_84 : decode cX16_noise 84 = .ok (.aload_n 0, 1) := by decide +kernel
theorem dX16_noise_85 : decode cX16_noise 85 = .ok (.aload 4, 2) := by decide +kernel
theorem dX16_noise_87 : decode cX16_noise 87 = .ok (.getfield 482, 3) := by decide +kernel
theorem dX16_noise_90 : decode cX16_noise 90 = .ok (.iload 5, 2) := by decide +kernel
theorem dX16_noise_92 : decode cX16_noise 92 = .ok (.laload, 1) := by decide +kernel
theorem dX16_noise_93 : decode cX16_noise 93 = .ok (.invokevirtual 404, 3) := by decide +kernel
theorem dX16_noise_96 : decode cX16_noise 96 = .ok (.lreturn, 1) := by decide +kernel
theorem dX16_noise_97 : decode cX16_noise 97 = .ok (.aload_n 0, 1) := by decide +kernel
theorem dX16_noise_98 : decode cX16_noise 98 = .ok (.getfield 317, 3) := by decide +kernel
theorem dX16_noise_101 : decode cX16_noise 101 = .ok (.ifCond .eq 10, 3) := by decide +kernel
theorem dX16_noise_104 : decode cX16_noise 104 = .ok (.aload_n 0, 1) := by decide +kernel
theorem dX16_noise_105 : decode cX16_noise 105 = .ok (.getfield 320, 3) := by decide +kernel
theorem dX16_noise_108 : decode cX16_noise 108 = .ok (.ifCond .ne 9, 3) := by decide +kernel
theorem dX16_noise_111 : decode cX16_noise 111 = .ok (.aload_n 0, 1) := by decide +kernel
theorem dX16_noise_112 : decode cX16_noise 112 = .ok (.iconst 5, 1) := by decide +kernel
theorem dX16_noise_113 : decode cX16_noise 113 = .ok (.invokevirtual 396, 3) := by decide +kernel
theorem dX16_noise_116 : decode cX16_noise 116 = .ok (.lreturn, 1) := by decide +kernel
theorem dX16_noise_117 : decode cX16_noise 117 = .ok (.aload 4, 2) := by decide +kernel
theorem dX16_noise_119 : decode cX16_noise 119 = .ok (.getfield 476, 3) := by decide +kernel
theorem dX16_noise_122 : decode cX16_noise 122 = .ok (.iload 5, 2) := by decide +kernel
theorem dX16_noise_124 : decode cX16_noise 124 = .ok (.iconst 1, 1) := by decide +kernel
theorem dX16_noise_125 : decode cX16_noise 125 = .ok (.bastore, 1) := by decide +kernel
theorem dX16_noise_126 : decode cX16_noise 126 = .ok (.aload 4, 2) := by decide +kernel
theorem dX16_noise_128 : decode cX16_noise 128 = .ok (.getfield 479, 3) := by decide +kernel
theorem dX16_noise_131 : decode cX16_noise 131 = .ok (.iload 5, 2) := by decide +kernel
theorem dX16_noise_133 : decode cX16_noise 133 = .ok (.lload 6, 2) := by decide +kernel
theorem dX16_noise_135 : decode cX16_noise 135 = .ok (.lastore, 1) := by decide +kernel
theorem dX16_noise_136 : decode cX16_noise 136 = .ok (.aload 4, 2) := by decide +kernel
theorem dX16_noise_138 : decode cX16_noise 138 = .ok (.getfield 482, 3) := by decide +kernel
theorem dX16_noise_141 : decode cX16_noise 141 = .ok (.iload 5, 2) := by decide +kernel
theorem dX16_noise_143 : decode cX16_noise 143 = .ok (.lconst 0, 1) := by decide +kernel
theorem dX16_noise_144 : decode cX16_noise 144 = .ok (.lload 6, 2) := by decide +kernel
theorem dX16_noise_146 : decode cX16_noise 146 = .ok (.aload_n 0, 1) := by decide +kernel
theorem dX16_noise_147 : decode cX16_noise 147 = .ok (.getfield 106, 3) := by decide +kernel
theorem dX16_noise_150 : decode cX16_noise 150 = .ok (.iconst 0, 1) := by decide +kernel
theorem dX16_noise_151 : decode cX16_noise 151 = .ok (.iaload, 1) := by decide +kernel
theorem dX16_noise_152 : decode cX16_noise 152 = .ok (.i2l, 1) := by decide +kernel
theorem dX16_noise_153 : decode cX16_noise 153 = .ok (.ladd, 1) := by decide +kernel
theorem dX16_noise_154 : decode cX16_noise 154 = .ok (.invokestatic 408, 3) := by decide +kernel
theorem dX16_noise_157 : decode cX16_noise 157 = .ok (.lastore, 1) := by decide +kernel
theorem dX16_noise_158 : decode cX16_noise 158 = .ok (.aload_n 0, 1) := by decide +kernel
theorem dX16_noise_159 : decode cX16_noise 159 = .ok (.dup, 1) := by decide +kernel
theorem dX16_noise_160 : decode cX16_noise 160 = .ok (.getfield 317, 3) := by decide +kernel
theorem dX16_noise_163 : decode cX16_noise 163 = .ok (.iconst 1, 1) := by decide +kernel
theorem dX16_noise_164 : decode cX16_noise 164 = .ok (.isub, 1) := by decide +kernel
theorem dX16_noise_165 : decode cX16_noise 165 = .ok (.putfield 317, 3) := by decide +kernel
theorem dX16_noise_168 : decode cX16_noise 168 = .ok (.aload_n 0, 1) := by decide +kernel
theorem dX16_noise_169 : decode cX16_noise 169 = .ok (.dup, 1) := by decide +kernel
theorem dX16_noise_170 : decode cX16_noise 170 = .ok (.getfield 320, 3) := by decide +kernel
theorem dX16_noise_173 : decode cX16_noise 173 = .ok (.iconst 1, 1) := by decide +kernel
theorem dX16_noise_174 : decode cX16_noise 174 = .ok (.isub, 1) := by decide +kernel
theorem dX16_noise_175 : decode cX16_noise 175 = .ok (.putfield 320, 3) := by decide +kernel
theorem dX16_noise_178 : decode cX16_noise 178 = .ok (.iconst 0, 1) := by decide +kernel
theorem dX16_noise_179 : decode cX16_noise 179 = .ok (.istore 8, 2) := by decide +kernel
theorem dX16_noise_181 : decode cX16_noise 181 = .ok (.iload 8, 2) := by decide +kernel
theorem dX16_noise_183 : decode cX16_noise 183 = .ok (.aload_n 0, 1) := by decide +kernel
theorem dX16_noise_184 : decode cX16_noise 184 = .ok (.getfield 317, 3) := by decide +kernel
theorem dX16_noise_187 : decode cX16_noise 187 = .ok (.if_icmp .ge 25, 3) := by decide +kernel
theorem dX16_noise_190 : decode cX16_noise 190 = .ok (.aload_n 0, 1) := by decide +kernel
theorem dX16_noise_191 : decode cX16_noise 191 = .ok (.getfield 106, 3) := by decide +kernel
theorem dX16_noise_194 : decode cX16_noise 194 = .ok (.iload 8, 2) := by decide +kernel
theorem dX16_noise_196 : decode cX16_noise 196 = .ok (.aload_n 0, 1) := by decide +kernel
theorem dX16_noise_197 : decode cX16_noise 197 = .ok (.getfield 106, 3) := by decide +kernel
theorem dX16_noise_200 : decode cX16_noise 200 = .ok (.iload 8, 2) := by decide +kernel
theorem dX16_noise_202 : decode cX16_noise 202 = .ok (.iconst 1, 1) := by decide +kernel
theorem dX16_noise_203 : decode cX16_noise 203 = .ok (.iadd, 1) := by decide +kernel
theorem dX16_noise_204 : decode cX16_noise 204 = .ok (.iaload, 1) := by decide +kernel
theorem dX16_noise_205 : decode cX16_noise 205 = .ok (.iastore, 1) := by decide +kernel
theorem dX16_noise_206 : decode cX16_noise 206 = .ok (.iinc 8 1, 3) := by decide +kernel
theorem dX16_noise_209 : decode cX16_noise 209 = .ok (.goto (-28), 3) := by decide +kernel
theorem dX16_noise_212 : decode cX16_noise 212 = .ok (.aload_n 0, 1) := by decide +kernel
theorem dX16_noise_213 : decode cX16_noise 213 = .ok (.aload 4, 2) := by decide +kernel
theorem dX16_noise_215 : decode cX16_noise 215 = .ok (.getfield 482, 3) := by decide +kernel
theorem dX16_noise_218 : decode cX16_noise 218 = .ok (.iload 5, 2) := by decide +kernel
theorem dX16_noise_220 : decode cX16_noise 220 = .ok (.laload, 1) := by decide +kernel
theorem dX16_noise_221 : decode cX16_noise 221 = .ok (.invokevirtual 404, 3) := by decide +kernel
theorem dX16_noise_224 : decode cX16_noise 224 = .ok (.lreturn, 1) := by decide +kernel
theorem dX16_led_0 : decode cX16_led 0 = .ok (.aload_n 0, 1) := by decide +kernel
theorem dX16_led_1 : decode cX16_led 1 = .ok (.iconst 1, 1) := by decide +kernel
theorem dX16_led_2 : decode cX16_led 2 = .ok (.putfield 109, 3) := by decide +kernel
theorem dX16_led_5 : decode cX16_led 5 = .ok (.aload_n 0, 1) := by decide +kernel
theorem dX16_led_6 : decode cX16_led 6 = .ok (.iload_n 1, 1) := by decide +kernel
theorem dX16_led_7 : decode cX16_led 7 = .ok (.iload_n 2, 1) := by decide +kernel
theorem dX16_led_8 : decode cX16_led 8 = .ok (.iload_n 3, 1) := by decide +kernel
theorem dX16_led_9 : decode cX16_led 9 = .ok (.invokevirtual 393, 3) := by decide +kernel
theorem dX16_led_12 : decode cX16_led 12 = .ok (.ifCond .eq 8, 3) := by decide +kernel
theorem dX16_led_15 : decode cX16_led 15 = .ok (.iload 4, 2) := by decide +kernel
theorem dX16_led_17 : decode cX16_led 17 = .ok (.ifCond .ge 5, 3) := by decide +kernel
theorem dX16_led_20 : decode cX16_led 20 = .ok (.iconst 0, 1) := by decide +kernel
theorem dX16_led_21 : decode cX16_led 21 = .ok (.ireturn, 1) := by decide +kernel
theorem dX16_led_22 : decode cX16_led 22 = .ok (.iload 4, 2) := by decide +kernel
theorem dX16_led_24 : decode cX16_led 24 = .ok (.istore 5, 2) := by decide +kernel
theorem dX16_led_26 : decode cX16_led 26 = .ok (.iconst 0, 1) := by decide +kernel
theorem dX16_led_27 : decode cX16_led 27 = .ok (.istore 6, 2) := by decide +kernel
theorem dX16_led_29 : decode cX16_led 29 = .ok (.iload 6, 2) := by decide +kernel
theorem dX16_led_31 : decode cX16_led 31 = .ok (.aload_n 0, 1) := by decide +kernel
theorem dX16_led_32 : decode cX16_led 32 = .ok (.getfield 308, 3) := by decide +kernel
theorem dX16_led_35 : decode cX16_led 35 = .ok (.if_icmp .ge 50, 3) := by decide +kernel
theorem dX16_led_38 : decode cX16_led 38 = .ok (.aload_n 0, 1) := by decide +kernel
theorem dX16_led_39 : decode cX16_led 39 = .ok (.aload_n 0, 1) := by decide +kernel
theorem dX16_led_40 : decode cX16_led 40 = .ok (.getfield 15, 3) := by decide +kernel
theorem dX16_led_43 : decode cX16_led 43 = .ok (.iload_n 1, 1) := by decide +kernel
theorem dX16_led_44 : decode cX16_led 44 = .ok (.aaload, 1) := by decide +kernel
theorem dX16_led_45 : decode cX16_led 45 = .ok (.iload 6, 2) := by decide +kernel
theorem dX16_led_47 : decode cX16_led 47 = .ok (.iload_n 2, 1) := by decide +kernel
theorem dX16_led_48 : decode cX16_led 48 = .ok (.iload_n 3, 1) := by decide +kernel
theorem dX16_led_49 : decode cX16_led 49 = .ok (.aload_n 0, 1) := by decide +kernel
theorem dX16_led_50 : decode cX16_led 50 = .ok (.getfield 314, 3) := by decide +kernel
theorem dX16_led_53 : decode cX16_led 53 = .ok (.iconst 0, 1) := by decide +kernel
theorem dX16_led_54 : decode cX16_led 54 = .ok (.invokevirtual 389, 3) := by decide +kernel
theorem dX16_led_57 : decode cX16_led 57 = .ok (.ifCond .ne 6, 3) := by decide +kernel
theorem dX16_led_60 : decode cX16_led 60 = .ok (.goto 19, 3) := by decide +kernel
theorem dX16_led_63 : decode cX16_led 63 = .ok (.iload 5, 2) := by decide +kernel
theorem dX16_led_65 : decode cX16_led 65 = .ok (.ifCond .ne 11, 3) := by decide +kernel
theorem dX16_led_68 : decode cX16_led 68 = .ok (.aload_n 0, 1) := by decide +kernel
theorem dX16_led_69 : decode cX16_led 69 = .ok (.iconst 0, 1) := by decide +kernel
theorem dX16_led_70 : decode cX16_led 70 = .ok (.putfield 109, 3) := by decide +kernel
theorem dX16_led_73 : decode cX16_led 73 = .ok (.iload 6, 2) := by decide +kernel
theorem dX16_led_75 : decode cX16_led 75 = .ok (.ireturn, 1) := by decide +kernel
theorem dX16_led_76 : decode cX16_led 76 = .ok (.iinc 5 (-1), 3) := by decide +kernel
theorem dX16_led_79 : decode cX16_led 79 = .ok (.iinc 6 1, 3) := by decide +kernel
theorem dX16_led_82 : decode cX16_led 82 = .ok (.goto (-53), 3) := by decide +kernel
theorem dX16_led_85 : decode cX16_led 85 = .ok (.iconst 0, 1) := by decide +kernel
theorem dX16_led_86 : decode cX16_led 86 = .ok (.ireturn, 1) := by decide +kernel
theorem dX16_count_0 : decode cX16_count 0 = .ok (.aload_n 0, 1) := by decide +kernel
theorem dX16_count_1 : decode cX16_count 1 = .ok (.iconst 0, 1) := by decide +kernel
theorem dX16_count_2 : decode cX16_count 2 = .ok (.putfield 109, 3) := by decide +kernel
theorem dX16_count_5 : decode cX16_count 5 = .ok (.iconst 0, 1) := by decide +kernel
theorem dX16_count_6 : decode cX16_count 6 = .ok (.istore_n 2, 1) := by decide +kernel
theorem dX16_count_7 : decode cX16_count 7 = .ok (.iload_n 1, 1) := by decide +kernel
theorem dX16_count_8 : decode cX16_count 8 = .ok (.tableswitch 267 0 10 #[60, 79, 98, 103, 108, 113, 180, 216, 252, 257, 262], 60) := by decide +kernel
theorem dX16_count_68 : decode cX16_count 68 = .ok (.aload_n 0, 1) := by decide +kernel
theorem dX16_count_69 : decode cX16_count 69 = .ok (.getfield 274, 3) := by decide +kernel
theorem dX16_count_72 : decode cX16_count 72 = .ok (.ifnonnull 7, 3) := by decide +kernel
theorem dX16_count_75 : decode cX16_count 75 = .ok (.iconst 0, 1) := by decide +kernel
theorem dX16_count_76 : decode cX16_count 76 = .ok (.goto 10, 3) := by decide +kernel
theorem dX16_count_79 : decode cX16_count 79 = .ok (.aload_n 0, 1) := by decide +kernel
theorem dX16_count_80 : decode cX16_count 80 = .ok (.getfield 274, 3) := by decide +kernel
theorem dX16_count_83 : decode cX16_count 83 = .ok (.getfield 218, 3) := by decide +kernel
theorem dX16_count_86 : decode cX16_count 86 = .ok (.ireturn, 1) := by decide +kernel
theorem dX16_count_87 : decode cX16_count 87 = .ok (.aload_n 0, 1) := by decide +kernel
theorem dX16_count_88 : decode cX16_count 88 = .ok (.getfield 274, 3) := by decide +kernel
theorem dX16_count_91 : decode cX16_count 91 = .ok (.ifnonnull 7, 3) := by decide +kernel
theorem dX16_count_94 : decode cX16_count 94 = .ok (.iconst 0, 1) := by decide +kernel
theorem dX16_count_95 : decode cX16_count 95 = .ok (.goto 10, 3) := by decide +kernel
theorem dX16_count_98 : decode cX16_count 98 = .ok (.aload_n 0, 1) := by decide +kernel
theorem dX16_count_99 : decode cX16_count 99 = .ok (.getfield 274, 3) := by decide +kernel
theorem dX16_count_102 : decode cX16_count 102 = .ok (.getfield 241, 3) := by decide +kernel
theorem dX16_count_105 : decode cX16_count 105 = .ok (.ireturn, 1) := by decide +kernel
theorem dX16_count_106 : decode cX16_count 106 = .ok (.aload_n 0, 1) := by decide +kernel
theorem dX16_count_107 : decode cX16_count 107 = .ok (.getfield 308, 3) := by decide +kernel
theorem dX16_count_110 : decode cX16_count 110 = .ok (.ireturn, 1) := by decide +kernel
theorem dX16_count_111 : decode cX16_count 111 = .ok (.aload_n 0, 1) := by decide +kernel
theorem dX16_count_112 : decode cX16_count 112 = .ok (.getfield 311, 3) := by decide +kernel
theorem dX16_count_115 : decode cX16_count 115 = .ok (.ireturn, 1) := by decide +kernel
theorem dX16_count_116 : decode cX16_count 116 = .ok (.aload_n 0, 1) := by decide +kernel
theorem dX16_count_117 : decode cX16_count 117 = .ok (.getfield 314, 3) := by decide +kernel
theorem dX16_count_120 : decode cX16_count 120 = .ok (.ireturn, 1) := by decide +kernel
theorem dX16_count_121 : decode cX16_count 121 = .ok (.iconst 0, 1) := by decide +kernel
theorem dX16_count_122 : decode cX16_count 122 = .ok (.istore_n 3, 1) := by decide +kernel
theorem dX16_count_123 : decode cX16_count 123 = .ok (.iload_n 3, 1) := by decide +kernel
theorem dX16_count_124 : decode cX16_count 124 = .ok (.aload_n 0, 1) := by decide +kernel
theorem dX16_count_125 : decode cX16_count 125 = .ok (.getfield 308, 3) := by decide +kernel
theorem dX16_count_128 : decode cX16_count 128 = .ok (.if_icmp .ge 58, 3) := by decide +kernel
theorem dX16_count_131 : decode cX16_count 131 = .ok (.aload_n 0, 1) := by decide +kernel
theorem dX16_count_132 : decode cX16_count 132 = .ok (.iload_n 3, 1) := by decide +kernel
theorem dX16_count_133 : decode cX16_count 133 = .ok (.aload_n 0, 1) := by decide +kernel
theorem dX16_count_134 : decode cX16_count 134 = .ok (.getfield 314, 3) := by decide +kernel
theorem dX16_count_137 : decode cX16_count 137 = .ok (.iconst 0, 1) := by decide +kernel
theorem dX16_count_138 : decode cX16_count 138 = .ok (.aload_n 0, 1) := by decide +kernel
theorem dX16_count_139 : decode cX16_count 139 = .ok (.getfield 58, 3) := by decide +kernel
theorem dX16_count_142 : decode cX16_count 142 = .ok (.invokevirtual 349, 3) := by decide +kernel
theorem dX16_count_145 : decode cX16_count 145 = .ok (.iload_n 2, 1) := by decide +kernel
theorem dX16_count_146 : decode cX16_count 146 = .ok (.aload_n 0, 1) := by decide +kernel
theorem dX16_count_147 : decode cX16_count 147 = .ok (.iload_n 3, 1) := by decide +kernel
theorem dX16_count_148 : decode cX16_count 148 = .ok (.aload_n 0, 1) := by decide +kernel
theorem dX16_count_149 : decode cX16_count 149 = .ok (.getfield 314, 3) := by decide +kernel
theorem dX16_count_152 : decode cX16_count 152 = .ok (.invokevirtual 353, 3) := by decide +kernel
theorem dX16_count_155 : decode cX16_count 155 = .ok (.ifCond .eq 22, 3) := by decide +kernel
theorem dX16_count_158 : decode cX16_count 158 = .ok (.aload_n 0, 1) := by decide +kernel
theorem dX16_count_159 : decode cX16_count 159 = .ok (.getfield 274, 3) := by decide +kernel
theorem dX16_count_162 : decode cX16_count 162 = .ok (.aload_n 0, 1) := by decide +kernel
theorem dX16_count_163 : decode cX16_count 163 = .ok (.getfield 58, 3) := by decide +kernel
theorem dX16_count_166 : decode cX16_count 166 = .ok (.invokevirtual 356, 3) := by decide +kernel
theorem dX16_count_169 : decode cX16_count 169 = .ok (.iconst (-1), 1) := by decide +kernel
theorem dX16_count_170 : decode cX16_count 170 = .ok (.if_icmp .eq 7, 3) := by decide +kernel
theorem dX16_count_173 : decode cX16_count 173 = .ok (.iconst 1, 1) := by decide +kernel
theorem dX16_count_174 : decode cX16_count 174 = .ok (.goto 4, 3) := by decide +kernel
theorem dX16_count_177 : decode cX16_count 177 = .ok (.iconst 0, 1) := by decide +kernel
theorem dX16_count_178 : decode cX16_count 178 = .ok (.iadd, 1) := by decide +kernel
theorem dX16_count_179 : decode cX16_count 179 = .ok (.istore_n 2, 1) := by decide +kernel
theorem dX16_count_180 : decode cX16_count 180 = .ok (.iinc 3 1, 3) := by decide +kernel
theorem dX16_count_183 : decode cX16_count 183 = .ok (.goto (-60), 3) := by decide +kernel
theorem dX16_count_186 : decode cX16_count 186 = .ok (.iload_n 2, 1) := by decide +kernel
theorem dX16_count_187 : decode cX16_count 187 = .ok (.ireturn, 1) := by decide +kernel
theorem dX16_count_188 : decode cX16_count 188 = .ok (.iconst 0, 1) := by decide +kernel
theorem dX16_count_189 : decode cX16_count 189 = .ok (.istore_n 3, 1) := by decide +kernel
theorem dX16_count_190 : decode cX16_count 190 = .ok (.iload_n 3, 1) := by decide +kernel
theorem dX16_count_191 : decode cX16_count 191 = .ok (.aload_n 0, 1) := by decide +kernel
theorem dX16_count_192 : decode cX16_count 192 = .ok (.getfield 308, 3) := by decide +kernel
theorem dX16_count_195 : decode cX16_count 195 = .ok (.if_icmp .ge 27, 3) := by decide +kernel
theorem dX16_count_198 : decode cX16_count 198 = .ok (.iload_n 2, 1) := by decide +kernel
theorem dX16_count_199 : decode cX16_count 199 = .ok (.aload_n 0, 1) := by decide +kernel
theorem dX16_count_200 : decode cX16_count 200 = .ok (.getfield 46, 3) := by decide +kernel
theorem dX16_count_203 : decode cX16_count 203 = .ok (.iload_n 3, 1) := by decide +kernel
theorem dX16_count_204 : decode cX16_count 204 = .ok (.iaload, 1) := by decide +kernel
theorem dX16_count_205 : decode cX16_count 205 = .ok (.iconst (-1), 1) := by decide +kernel
theorem dX16_count_206 : decode cX16_count 206 = .ok (.if_icmp .eq 7, 3) := by decide +kernel
theorem dX16_count_209 : decode cX16_count 209 = .ok (.iconst 1, 1) := by decide +kernel
theorem dX16_count_210 : decode cX16_count 210 = .ok (.goto 4, 3) := by decide +kernel
theorem dX16_count_213 : decode cX16_count 213 = .ok (.iconst 0, 1) := by decide +kernel
theorem dX16_count_214 : decode cX16_count 214 = .ok (.iadd, 1) := by decide +kernel
theorem dX16_count_215 : decode cX16_count 215 = .ok (.istore_n 2, 1) := by decide +kernel
theorem dX16_count_216 : decode cX16_count 216 = .ok (.iinc 3 1, 3) := by decide +kernel
theorem dX16_count_219 : decode cX16_count 219 = .ok (.goto (-29), 3) := by decide +kernel
theorem dX16_count_222 : decode cX16_count 222 = .ok (.iload_n 2, 1) := by decide +kernel
theorem dX16_count_223 : decode cX16_count 223 = .ok (.ireturn, 1) := by decide +kernel
theorem dX16_count_224 : decode cX16_count 224 = .ok (.iconst 0, 1) := by decide +kernel
theorem dX16_count_225 : decode cX16_count 225 = .ok (.istore_n 3, 1) := by decide +kernel
theorem dX16_count_226 : decode cX16_count 226 = .ok (.iload_n 3, 1) := by decide +kernel
theorem dX16_count_227 : decode cX16_count 227 = .ok (.aload_n 0, 1) := by decide +kernel
theorem dX16_count_228 : decode cX16_count 228 = .ok (.getfield 308, 3) := by decide +kernel
theorem dX16_count_231 : decode cX16_count 231 = .ok (.if_icmp .ge 27, 3) := by decide +kernel
theorem dX16_count_234 : decode cX16_count 234 = .ok (.iload_n 2, 1) := by decide +kernel
theorem dX16_count_235 : decode cX16_count 235 = .ok (.aload_n 0, 1) := by decide +kernel
theorem dX16_count_236 : decode cX16_count 236 = .ok (.getfield 52, 3) := by decide +kernel
theorem dX16_count_239 : decode cX16_count 239 = .ok (.iload_n 3, 1) := by decide +kernel
theorem dX16_count_240 : decode cX16_count 240 = .ok (.iaload, 1) := by decide +kernel
theorem dX16_count_241 : decode cX16_count 241 = .ok (.iconst (-1), 1) := by decide +kernel
theorem dX16_count_242 : decode cX16_count 242 = .ok (.if_icmp .eq 7, 3) := by decide +kernel
theorem dX16_count_245 : decode cX16_count 245 = .ok (.iconst 1, 1) := by decide +kernel
theorem dX16_count_246 : decode cX16_count 246 = .ok (.goto 4, 3) := by decide +kernel
theorem dX16_count_249 : decode cX16_count 249 = .ok (.iconst 0, 1) := by decide +kernel
theorem dX16_count_250 : decode cX16_count 250 = .ok (.iadd, 1) := by decide +kernel
theorem dX16_count_251 : decode cX16_count 251 = .ok (.istore_n 2, 1) := by decide +kernel
theorem dX16_count_252 : decode cX16_count 252 = .ok (.iinc 3 1, 3) := by decide +kernel
theorem dX16_count_255 : decode cX16_count 255 = .ok (.goto (-29), 3) := by decide +kernel
theorem dX16_count_258 : decode cX16_count 258 = .ok (.iload_n 2, 1) := by decide +kernel
theorem dX16_count_259 : decode cX16_count 259 = .ok (.ireturn, 1) := by decide +kernel
theorem dX16_count_260 : decode cX16_count 260 = .ok (.aload_n 0, 1) := by decide +kernel
theorem dX16_count_261 : decode cX16_count 261 = .ok (.getfield 317, 3) := by decide +kernel
theorem dX16_count_264 : decode cX16_count 264 = .ok (.ireturn, 1) := by decide +kernel
theorem dX16_count_265 : decode cX16_count 265 = .ok (.aload_n 0, 1) := by decide +kernel
theorem dX16_count_266 : decode cX16_count 266 = .ok (.getfield 320, 3) := by decide +kernel
theorem dX16_count_269 : decode cX16_count 269 = .ok (.ireturn, 1) := by decide +kernel
theorem dX16_count_270 : decode cX16_count 270 = .ok (.aload_n 0, 1) := by decide +kernel
theorem dX16_count_271 : decode cX16_count 271 = .ok (.getfield 287, 3) := by decide +kernel
theorem dX16_count_274 : decode cX16_count 274 = .ok (.ireturn, 1) := by decide +kernel
theorem dX16_count_275 : decode cX16_count 275 = .ok (.iconst (-1), 1) := by decide +kernel
theorem dX16_count_276 : decode cX16_count 276 = .ok (.ireturn, 1) := by decide +kernel
theorem dX16_trouble_0 : decode cX16_trouble 0 = .ok (.aload_n 0, 1) := by decide +kernel
theorem dX16_trouble_1 : decode cX16_trouble 1 = .ok (.iconst 0, 1) := by decide +kernel
theorem dX16_trouble_2 : decode cX16_trouble 2 = .ok (.putfield 109, 3) := by decide +kernel
theorem dX16_trouble_5 : decode cX16_trouble 5 = .ok (.aload_n 0, 1) := by decide +kernel
theorem dX16_trouble_6 : decode cX16_trouble 6 = .ok (.getfield 112, 3) := by decide +kernel
theorem dX16_trouble_9 : decode cX16_trouble 9 = .ok (.ireturn, 1) := by decide +kernel
theorem dJ6_bitCount_0f7a4_0 : decode cJ6_bitCount_0f7a4 0 = .ok (.iload_n 0, 1) := by decide +kernel
theorem dJ6_bitCount_0f7a4_1 : decode cJ6_bitCount_0f7a4 1 = .ok (.iload_n 0, 1) := by decide +kernel
theorem dJ6_bitCount_0f7a4_2 : decode cJ6_bitCount_0f7a4 2 = .ok (.iconst 1, 1) := by decide +kernel
theorem dJ6_bitCount_0f7a4_3 : decode cJ6_bitCount_0f7a4 3 = .ok (.iushr, 1) := by decide +kernel
theorem dJ6_bitCount_0f7a4_4 : decode cJ6_bitCount_0f7a4 4 = .ok (.ldc_w 265, 3) := by decide +kernel
theorem dJ6_bitCount_0f7a4_7 : decode cJ6_bitCount_0f7a4 7 = .ok (.iand, 1) := by decide +kernel
theorem dJ6_bitCount_0f7a4_8 : decode cJ6_bitCount_0f7a4 8 = .ok (.isub, 1) := by decide +kernel
theorem dJ6_bitCount_0f7a4_9 : decode cJ6_bitCount_0f7a4 9 = .ok (.istore_n 0, 1) := by decide +kernel
theorem dJ6_bitCount_0f7a4_10 : decode cJ6_bitCount_0f7a4 10 = .ok (.iload_n 0, 1) := by decide +kernel
theorem dJ6_bitCount_0f7a4_11 : decode cJ6_bitCount_0f7a4 11 = .ok (.ldc_w 266, 3) := by decide +kernel
theorem dJ6_bitCount_0f7a4_14 : decode cJ6_bitCount_0f7a4 14 = .ok (.iand, 1) := by decide +kernel
theorem dJ6_bitCount_0f7a4_15 : decode cJ6_bitCount_0f7a4 15 = .ok (.iload_n 0, 1) := by decide +kernel
theorem dJ6_bitCount_0f7a4_16 : decode cJ6_bitCount_0f7a4 16 = .ok (.iconst 2, 1) := by decide +kernel
theorem dJ6_bitCount_0f7a4_17 : decode cJ6_bitCount_0f7a4 17 = .ok (.iushr, 1) := by decide +kernel
theorem dJ6_bitCount_0f7a4_18 : decode cJ6_bitCount_0f7a4 18 = .ok (.ldc_w 266, 3) := by decide +kernel
theorem dJ6_bitCount_0f7a4_21 : decode cJ6_bitCount_0f7a4 21 = .ok (.iand, 1) := by decide +kernel
theorem dJ6_bitCount_0f7a4_22 : decode cJ6_bitCount_0f7a4 22 = .ok (.iadd, 1) := by decide +kernel
theorem dJ6_bitCount_0f7a4_23 : decode cJ6_bitCount_0f7a4 23 = .ok (.istore_n 0, 1) := by decide +kernel
theorem dJ6_bitCount_0f7a4_24 : decode cJ6_bitCount_0f7a4 24 = .ok (.iload_n 0, 1) := by decide +kernel
theorem dJ6_bitCount_0f7a4_25 : decode cJ6_bitCount_0f7a4 25 = .ok (.iload_n 0, 1) := by decide +kernel
theorem dJ6_bitCount_0f7a4_26 : decode cJ6_bitCount_0f7a4 26 = .ok (.iconst 4, 1) := by decide +kernel
theorem dJ6_bitCount_0f7a4_27 : decode cJ6_bitCount_0f7a4 27 = .ok (.iushr, 1) := by decide +kernel
theorem dJ6_bitCount_0f7a4_28 : decode cJ6_bitCount_0f7a4 28 = .ok (.iadd, 1) := by decide +kernel
theorem dJ6_bitCount_0f7a4_29 : decode cJ6_bitCount_0f7a4 29 = .ok (.ldc_w 267, 3) := by decide +kernel
theorem dJ6_bitCount_0f7a4_32 : decode cJ6_bitCount_0f7a4 32 = .ok (.iand, 1) := by decide +kernel
theorem dJ6_bitCount_0f7a4_33 : decode cJ6_bitCount_0f7a4 33 = .ok (.istore_n 0, 1) := by decide +kernel
theorem dJ6_bitCount_0f7a4_34 : decode cJ6_bitCount_0f7a4 34 = .ok (.iload_n 0, 1) := by decide +kernel
theorem dJ6_bitCount_0f7a4_35 : decode cJ6_bitCount_0f7a4 35 = .ok (.iload_n 0, 1) := by decide +kernel
theorem dJ6_bitCount_0f7a4_36 : decode cJ6_bitCount_0f7a4 36 = .ok (.bipush 8, 2) := by decide +kernel
theorem dJ6_bitCount_0f7a4_38 : decode cJ6_bitCount_0f7a4 38 = .ok (.iushr, 1) := by decide +kernel
theorem dJ6_bitCount_0f7a4_39 : decode cJ6_bitCount_0f7a4 39 = .ok (.iadd, 1) := by decide +kernel
theorem dJ6_bitCount_0f7a4_40 : decode cJ6_bitCount_0f7a4 40 = .ok (.istore_n 0, 1) := by decide +kernel
theorem dJ6_bitCount_0f7a4_41 : decode cJ6_bitCount_0f7a4 41 = .ok (.iload_n 0, 1) := by decide +kernel
theorem dJ6_bitCount_0f7a4_42 : decode cJ6_bitCount_0f7a4 42 = .ok (.iload_n 0, 1) := by decide +kernel
theorem dJ6_bitCount_0f7a4_43 : decode cJ6_bitCount_0f7a4 43 = .ok (.bipush 16, 2) := by decide +kernel
theorem dJ6_bitCount_0f7a4_45 : decode cJ6_bitCount_0f7a4 45 = .ok (.iushr, 1) := by decide +kernel
theorem dJ6_bitCount_0f7a4_46 : decode cJ6_bitCount_0f7a4 46 = .ok (.iadd, 1) := by decide +kernel
theorem dJ6_bitCount_0f7a4_47 : decode cJ6_bitCount_0f7a4 47 = .ok (.istore_n 0, 1) := by decide +kernel
theorem dJ6_bitCount_0f7a4_48 : decode cJ6_bitCount_0f7a4 48 = .ok (.iload_n 0, 1) := by decide +kernel
theorem dJ6_bitCount_0f7a4_49 : decode cJ6_bitCount_0f7a4 49 = .ok (.bipush 63, 2) := by decide +kernel
theorem dJ6_bitCount_0f7a4_51 : decode cJ6_bitCount_0f7a4 51 = .ok (.iand, 1) := by decide +kernel
theorem dJ6_bitCount_0f7a4_52 : decode cJ6_bitCount_0f7a4 52 = .ok (.ireturn, 1) := by decide +kernel
theorem dJ13_bitCount_95d88_0 : decode cJ13_bitCount_95d88 0 = .ok (.lload_n 0, 1) := by decide +kernel
theorem dJ13_bitCount_95d88_1 : decode cJ13_bitCount_95d88 1 = .ok (.lload_n 0, 1) := by decide +kernel
theorem dJ13_bitCount_95d88_2 : decode cJ13_bitCount_95d88 2 = .ok (.iconst 1, 1) := by decide +kernel
theorem dJ13_bitCount_95d88_3 : decode cJ13_bitCount_95d88 3 = .ok (.lushr, 1) := by decide +kernel
theorem dJ13_bitCount_95d88_4 : decode cJ13_bitCount_95d88 4 = .ok (.ldc2_w 314, 3) := by decide +kernel
theorem dJ13_bitCount_95d88_7 : decode cJ13_bitCount_95d88 7 = .ok (.land, 1) := by decide +kernel
theorem dJ13_bitCount_95d88_8 : decode cJ13_bitCount_95d88 8 = .ok (.lsub, 1) := by decide +kernel
theorem dJ13_bitCount_95d88_9 : decode cJ13_bitCount_95d88 9 = .ok (.lstore_n 0, 1) := by decide +kernel
theorem dJ13_bitCount_95d88_10 : decode cJ13_bitCount_95d88 10 = .ok (.lload_n 0, 1) := by decide +kernel
theorem dJ13_bitCount_95d88_11 : decode cJ13_bitCount_95d88 11 = .ok (.ldc2_w 316, 3) := by decide +kernel
theorem dJ13_bitCount_95d88_14 : decode cJ13_bitCount_95d88 14 = .ok (.land, 1) := by decide +kernel
theorem dJ13_bitCount_95d88_15 : decode cJ13_bitCount_95d88 15 = .ok (.lload_n 0, 1) := by decide +kernel
theorem dJ13_bitCount_95d88_16 : decode cJ13_bitCount_95d88 16 = .ok (.iconst 2, 1) := by decide +kernel
theorem dJ13_bitCount_95d88_17 : decode cJ13_bitCount_95d88 17 = .ok (.lushr, 1) := by decide +kernel
theorem dJ13_bitCount_95d88_18 : decode cJ13_bitCount_95d88 18 = .ok (.ldc2_w 316, 3) := by decide +kernel
theorem dJ13_bitCount_95d88_21 : decode cJ13_bitCount_95d88 21 = .ok (.land, 1) := by decide +kernel
theorem dJ13_bitCount_95d88_22 : decode cJ13_bitCount_95d88 22 = .ok (.ladd, 1) := by decide +kernel
theorem dJ13_bitCount_95d88_23 : decode cJ13_bitCount_95d88 23 = .ok (.lstore_n 0, 1) := by decide +kernel
theorem dJ13_bitCount_95d88_24 : decode cJ13_bitCount_95d88 24 = .ok (.lload_n 0, 1) := by decide +kernel
theorem dJ13_bitCount_95d88_25 : decode cJ13_bitCount_95d88 25 = .ok (.lload_n 0, 1) := by decide +kernel
theorem dJ13_bitCount_95d88_26 : decode cJ13_bitCount_95d88 26 = .ok (.iconst 4, 1) := by decide +kernel
theorem dJ13_bitCount_95d88_27 : decode cJ13_bitCount_95d88 27 = .ok (.lushr, 1) := by decide +kernel
theorem dJ13_bitCount_95d88_28 : decode cJ13_bitCount_95d88 28 = .ok (.ladd, 1) := by decide +kernel
theorem dJ13_bitCount_95d88_29 : decode cJ13_bitCount_95d88 29 = .ok (.ldc2_w 318, 3) := by decide +kernel
theorem dJ13_bitCount_95d88_32 : decode cJ13_bitCount_95d88 32 = .ok (.land, 1) := by decide +kernel
theorem dJ13_bitCount_95d88_33 : decode cJ13_bitCount_95d88 33 = .ok (.lstore_n 0, 1) := by decide +kernel
theorem dJ13_bitCount_95d88_34 : decode cJ13_bitCount_95d88 34 = .ok (.lload_n 0, 1) := by decide +kernel
theorem dJ13_bitCount_95d88_35 : decode cJ13_bitCount_95d88 35 = .ok (.lload_n 0, 1) := by decide +kernel
theorem dJ13_bitCount_95d88_36 : decode cJ13_bitCount_95d88 36 = .ok (.bipush 8, 2) := by decide +kernel
theorem dJ13_bitCount_95d88_38 : decode cJ13_bitCount_95d88 38 = .ok (.lushr, 1) := by decide +kernel
theorem dJ13_bitCount_95d88_39 : decode cJ13_bitCount_95d88 39 = .ok (.ladd, 1) := by decide +kernel
theorem dJ13_bitCount_95d88_40 : decode cJ13_bitCount_95d88 40 = .ok (.lstore_n 0, 1) := by decide +kernel
theorem dJ13_bitCount_95d88_41 : decode cJ13_bitCount_95d88 41 = .ok (.lload_n 0, 1) := by decide +kernel
theorem dJ13_bitCount_95d88_42 : decode cJ13_bitCount_95d88 42 = .ok (.lload_n 0, 1) := by decide +kernel
theorem dJ13_bitCount_95d88_43 : decode cJ13_bitCount_95d88 43 = .ok (.bipush 16, 2) := by decide +kernel
theorem dJ13_bitCount_95d88_45 : decode cJ13_bitCount_95d88 45 = .ok (.lushr, 1) := by decide +kernel
theorem dJ13_bitCount_95d88_46 : decode cJ13_bitCount_95d88 46 = .ok (.ladd, 1) := by decide +kernel
theorem dJ13_bitCount_95d88_47 : decode cJ13_bitCount_95d88 47 = .ok (.lstore_n 0, 1) := by decide +kernel
theorem dJ13_bitCount_95d88_48 : decode cJ13_bitCount_95d88 48 = .ok (.lload_n 0, 1) := by decide +kernel
theorem dJ13_bitCount_95d88_49 : decode cJ13_bitCount_95d88 49 = .ok (.lload_n 0, 1) := by decide +kernel
theorem dJ13_bitCount_95d88_50 : decode cJ13_bitCount_95d88 50 = .ok (.bipush 32, 2) := by decide +kernel
theorem dJ13_bitCount_95d88_52 : decode cJ13_bitCount_95d88 52 = .ok (.lushr, 1) := by decide +kernel
theorem dJ13_bitCount_95d88_53 : decode cJ13_bitCount_95d88 53 = .ok (.ladd, 1) := by decide +kernel
theorem dJ13_bitCount_95d88_54 : decode cJ13_bitCount_95d88 54 = .ok (.lstore_n 0, 1) := by decide +kernel
theorem dJ13_bitCount_95d88_55 : decode cJ13_bitCount_95d88 55 = .ok (.lload_n 0, 1) := by decide +kernel
theorem dJ13_bitCount_95d88_56 : decode cJ13_bitCount_95d88 56 = .ok (.l2i, 1) := by decide +kernel
theorem dJ13_bitCount_95d88_57 : decode cJ13_bitCount_95d88 57 = .ok (.bipush 127, 2) := by decide +kernel
theorem dJ13_bitCount_95d88_59 : decode cJ13_bitCount_95d88 59 = .ok (.iand, 1) := by decide +kernel
theorem dJ13_bitCount_95d88_60 : decode cJ13_bitCount_95d88 60 = .ok (.ireturn, 1) := by decide +kernel
theorem dJ9_abs_0f7a4_0 : decode cJ9_abs_0f7a4 0 = .ok (.iload_n 0, 1) := by decide +kernel
theorem dJ9_abs_0f7a4_1 : decode cJ9_abs_0f7a4 1 = .ok (.ifCond .ge 8, 3) := by decide +kernel
theorem dJ9_abs_0f7a4_4 : decode cJ9_abs_0f7a4 4 = .ok (.iload_n 0, 1) := by decide +kernel
theorem dJ9_abs_0f7a4_5 : decode cJ9_abs_0f7a4 5 = .ok (.ineg, 1) := by decide +kernel
theorem dJ9_abs_0f7a4_6 : decode cJ9_abs_0f7a4 6 = .ok (.goto 4, 3) := by decide +kernel
theorem dJ9_abs_0f7a4_9 : decode cJ9_abs_0f7a4 9 = .ok (.iload_n 0, 1) := by decide +kernel
theorem dJ9_abs_0f7a4_10 : decode cJ9_abs_0f7a4 10 = .ok (.ireturn, 1) := by decide +kernel
theorem dJ9_max_f86c9_0 : decode cJ9_max_f86c9 0 = .ok (.lload_n 0, 1) := by decide +kernel
theorem dJ9_max_f86c9_1 : decode cJ9_max_f86c9 1 = .ok (.lload_n 2, 1) := by decide +kernel
theorem dJ9_max_f86c9_2 : decode cJ9_max_f86c9 2 = .ok (.lcmp, 1) := by decide +kernel
theorem dJ9_max_f86c9_3 : decode cJ9_max_f86c9 3 = .ok (.ifCond .lt 7, 3) := by decide +kernel
theorem dJ9_max_f86c9_6 : decode cJ9_max_f86c9 6 = .ok (.lload_n 0, 1) := by decide +kernel
theorem dJ9_max_f86c9_7 : decode cJ9_max_f86c9 7 = .ok (.goto 4, 3) := by decide +kernel
theorem dJ9_max_f86c9_10 : decode cJ9_max_f86c9 10 = .ok (.lload_n 2, 1) := by decide +kernel
theorem dJ9_max_f86c9_11 : decode cJ9_max_f86c9 11 = .ok (.lreturn, 1) := by decide +kernel
theorem dJ9_min_7cf53_0 : decode cJ9_min_7cf53 0 = .ok (.iload_n 0, 1) := by decide +kernel
theorem dJ9_min_7cf53_1 : decode cJ9_min_7cf53 1 = .ok (.iload_n 1, 1) := by decide +kernel
theorem dJ9_min_7cf53_2 : decode cJ9_min_7cf53 2 = .ok (.if_icmp .gt 7, 3) := by decide +kernel
theorem dJ9_min_7cf53_5 : decode cJ9_min_7cf53 5 = .ok (.iload_n 0, 1) := by decide +kernel
theorem dJ9_min_7cf53_6 : decode cJ9_min_7cf53 6 = .ok (.goto 4, 3) := by decide +kernel
theorem dJ9_min_7cf53_9 : decode cJ9_min_7cf53 9 = .ok (.iload_n 1, 1) := by decide +kernel
theorem dJ9_min_7cf53_10 : decode cJ9_min_7cf53 10 = .ok (.ireturn, 1) := by decide +kernel
theorem dJ9_min_f86c9_0 : decode cJ9_min_f86c9 0 = .ok (.lload_n 0, 1) := by decide +kernel
theorem dJ9_min_f86c9_1 : decode cJ9_min_f86c9 1 = .ok (.lload_n 2, 1) := by decide +kernel
theorem dJ9_min_f86c9_2 : decode cJ9_min_f86c9 2 = .ok (.lcmp, 1) := by decide +kernel
theorem dJ9_min_f86c9_3 : decode cJ9_min_f86c9 3 = .ok (.ifCond .gt 7, 3) := by decide +kernel
theorem dJ9_min_f86c9_6 : decode cJ9_min_f86c9 6 = .ok (.lload_n 0, 1) := by decide +kernel
theorem dJ9_min_f86c9_7 : decode cJ9_min_f86c9 7 = .ok (.goto 4, 3) := by decide +kernel
theorem dJ9_min_f86c9_10 : decode cJ9_min_f86c9 10 = .ok (.lload_n 2, 1) := by decide +kernel
theorem dJ9_min_f86c9_11 : decode cJ9_min_f86c9 11 = .ok (.lreturn, 1) := by decide +kernel
theorem dJ0_length_8abf5_0 : decode cJ0_length_8abf5 0 = .ok (.aload_n 0, 1) := by decide +kernel
theorem dJ0_length_8abf5_1 : decode cJ0_length_8abf5 1 = .ok (.getfield 9, 3) := by decide +kernel
theorem dJ0_length_8abf5_4 : decode cJ0_length_8abf5 4 = .ok (.arraylength, 1) := by decide +kernel
theorem dJ0_length_8abf5_5 : decode cJ0_length_8abf5 5 = .ok (.aload_n 0, 1) := by decide +kernel
theorem dJ0_length_8abf5_6 : decode cJ0_length_8abf5 6 = .ok (.invokevirtual 335, 3) := by decide +kernel
theorem dJ0_length_8abf5_9 : decode cJ0_length_8abf5 9 = .ok (.ishr, 1) := by decide +kernel
theorem dJ0_length_8abf5_10 : decode cJ0_length_8abf5 10 = .ok (.ireturn, 1) := by decide +kernel
theorem dJ0_charAt_5068e_0 : decode cJ0_charAt_5068e 0 = .ok (.aload_n 0, 1) := by decide +kernel
theorem dJ0_charAt_5068e_1 : decode cJ0_charAt_5068e 1 = .ok (.invokevirtual 492, 3) := by decide +kernel
theorem dJ0_charAt_5068e_4 : decode cJ0_charAt_5068e 4 = .ok (.ifCond .eq 12, 3) := by decide +kernel
theorem dJ0_charAt_5068e_7 : decode cJ0_charAt_5068e 7 = .ok (.aload_n 0, 1) := by decide +kernel
theorem dJ0_charAt_5068e_8 : decode cJ0_charAt_5068e 8 = .ok (.getfield 9, 3) := by decide +kernel
theorem dJ0_charAt_5068e_11 : decode cJ0_charAt_5068e 11 = .ok (.iload_n 1, 1) := by decide +kernel
theorem dJ0_charAt_5068e_12 : decode cJ0_charAt_5068e 12 = .ok (.invokestatic 495, 3) := by decide +kernel
theorem dJ0_charAt_5068e_15 : decode cJ0_charAt_5068e 15 = .ok (.ireturn, 1) := by decide +kernel
theorem dJ0_charAt_5068e_16 : decode cJ0_charAt_5068e 16 = .ok (.aload_n 0, 1) := by decide +kernel
theorem dJ0_charAt_5068e_17 : decode cJ0_charAt_5068e 17 = .ok (.getfield 9, 3) := by decide +kernel
theorem dJ0_charAt_5068e_20 : decode cJ0_charAt_5068e 20 = .ok (.iload_n 1, 1) := by decide +kernel
theorem dJ0_charAt_5068e_21 : decode cJ0_charAt_5068e 21 = .ok (.invokestatic 498, 3) := by decide +kernel
theorem dJ0_charAt_5068e_24 : decode cJ0_charAt_5068e 24 = .ok (.ireturn, 1) := by decide +kernel
theorem dJ0_coder_7d493_0 : decode cJ0_coder_7d493 0 = .ok (.getstatic 38, 3) := by decide +kernel
theorem dJ0_coder_7d493_3 : decode cJ0_coder_7d493 3 = .ok (.ifCond .eq 10, 3) := by decide +kernel
theorem dJ0_coder_7d493_6 : decode cJ0_coder_7d493 6 = .ok (.aload_n 0, 1) := by decide +kernel
theorem dJ0_coder_7d493_7 : decode cJ0_coder_7d493 7 = .ok (.getfield 15, 3) := by decide +kernel
theorem dJ0_coder_7d493_10 : decode cJ0_coder_7d493 10 = .ok (.goto 4, 3) := by decide +kernel
theorem dJ0_coder_7d493_13 : decode cJ0_coder_7d493 13 = .ok (.iconst 1, 1) := by decide +kernel
theorem dJ0_coder_7d493_14 : decode cJ0_coder_7d493 14 = .ok (.ireturn, 1) := by decide +kernel
theorem dJ0_isLatin1_aae02_0 : decode cJ0_isLatin1_aae02 0 = .ok (.getstatic 38, 3) := by decide +kernel
theorem dJ0_isLatin1_aae02_3 : decode cJ0_isLatin1_aae02 3 = .ok (.ifCond .eq 14, 3) := by decide +kernel
theorem dJ0_isLatin1_aae02_6 : decode cJ0_isLatin1_aae02 6 = .ok (.aload_n 0, 1) := by decide +kernel
theorem dJ0_isLatin1_aae02_7 : decode cJ0_isLatin1_aae02 7 = .ok (.getfield 15, 3) := by decide +kernel
theorem dJ0_isLatin1_aae02_10 : decode cJ0_isLatin1_aae02 10 = .ok (.ifCond .ne 7, 3) := by decide +kernel
theorem dJ0_isLatin1_aae02_13 : decode cJ0_isLatin1_aae02 13 = .ok (.iconst 1, 1) := by decide +kernel
theorem dJ0_isLatin1_aae02_14 : decode cJ0_isLatin1_aae02 14 = .ok (.goto 4, 3) := by decide +kernel
theorem dJ0_isLatin1_aae02_17 : decode cJ0_isLatin1_aae02 17 = .ok (.iconst 0, 1) := by decide +kernel
theorem dJ0_isLatin1_aae02_18 : decode cJ0_isLatin1_aae02 18 = .ok (.ireturn, 1) := by decide +kernel
theorem dJ0_checkIndex_df160_0 : decode cJ0_checkIndex_df160 0 = .ok (.iload_n 0, 1) := by decide +kernel
theorem dJ0_checkIndex_df160_1 : decode cJ0_checkIndex_df160 1 = .ok (.iload_n 1, 1) := by decide +kernel
theorem dJ0_checkIndex_df160_2 : decode cJ0_checkIndex_df160 2 = .ok (.getstatic 1053, 3) := by decide +kernel
theorem dJ0_checkIndex_df160_5 : decode cJ0_checkIndex_df160 5 = .ok (.invokestatic 1059, 3) := by decide +kernel
theorem dJ0_checkIndex_df160_8 : decode cJ0_checkIndex_df160 8 = .ok (.pop, 1) := by decide +kernel
theorem dJ0_checkIndex_df160_9 : decode cJ0_checkIndex_df160 9 = .ok (.return_, 1) := by decide +kernel
theorem dJ1_charAt_3b067_0 : decode cJ1_charAt_3b067 0 = .ok (.iload_n 1, 1) := by decide +kernel
theorem dJ1_charAt_3b067_1 : decode cJ1_charAt_3b067 1 = .ok (.aload_n 0, 1) := by decide +kernel
theorem dJ1_charAt_3b067_2 : decode cJ1_charAt_3b067 2 = .ok (.arraylength, 1) := by decide +kernel
theorem dJ1_charAt_3b067_3 : decode cJ1_charAt_3b067 3 = .ok (.invokestatic 9, 3) := by decide +kernel
theorem dJ1_charAt_3b067_6 : decode cJ1_charAt_3b067 6 = .ok (.aload_n 0, 1) := by decide +kernel
theorem dJ1_charAt_3b067_7 : decode cJ1_charAt_3b067 7 = .ok (.iload_n 1, 1) := by decide +kernel
theorem dJ1_charAt_3b067_8 : decode cJ1_charAt_3b067 8 = .ok (.baload, 1) := by decide +kernel
theorem dJ1_charAt_3b067_9 : decode cJ1_charAt_3b067 9 = .ok (.sipush 255, 3) := by decide +kernel
theorem dJ1_charAt_3b067_12 : decode cJ1_charAt_3b067 12 = .ok (.iand, 1) := by decide +kernel
theorem dJ1_charAt_3b067_13 : decode cJ1_charAt_3b067 13 = .ok (.i2c, 1) := by decide +kernel
theorem dJ1_charAt_3b067_14 : decode cJ1_charAt_3b067 14 = .ok (.ireturn, 1) := by decide +kernel
theorem dJ2_getChar_3b067_0 : decode cJ2_getChar_3b067 0 = .ok (.getstatic 44, 3) := by decide +kernel
theorem dJ2_getChar_3b067_3 : decode cJ2_getChar_3b067 3 = .ok (.ifCond .ne 25, 3) := by decide +kernel
theorem dJ2_getChar_3b067_6 : decode cJ2_getChar_3b067 6 = .ok (.iload_n 1, 1) := by decide +kernel
theorem dJ2_getChar_3b067_7 : decode cJ2_getChar_3b067 7 = .ok (.ifCond .lt 11, 3) := by decide +kernel
theorem dJ2_getChar_3b067_10 : decode cJ2_getChar_3b067 10 = .ok (.iload_n 1, 1) := by decide +kernel
theorem dJ2_getChar_3b067_11 : decode cJ2_getChar_3b067 11 = .ok (.aload_n 0, 1) := by decide +kernel
theorem dJ2_getChar_3b067_12 : decode cJ2_getChar_3b067 12 = .ok (.invokestatic 48, 3) := by decide +kernel
theorem dJ2_getChar_3b067_15 : decode cJ2_getChar_3b067 15 = .ok (.if_icmp .lt 13, 3) := by decide +kernel
theorem dJ2_getChar_3b067_18 : decode cJ2_getChar_3b067 18 = .ok (.new 52, 3) := by decide +kernel
theorem dJ2_getChar_3b067_21 : decode cJ2_getChar_3b067 21 = .ok (.dup, 1) := by decide +kernel
theorem dJ2_getChar_3b067_22 : decode cJ2_getChar_3b067 22 = .ok (.ldc 54, 2) := by decide +kernel
theorem dJ2_getChar_3b067_24 : decode cJ2_getChar_3b067 24 = .ok (.invokespecial 56, 3) := by decide +kernel
theorem dJ2_getChar_3b067_27 : decode cJ2_getChar_3b067 27 = .ok (.athrow, 1) := by decide +kernel
theorem dJ2_getChar_3b067_28 : decode cJ2_getChar_3b067 28 = .ok (.iload_n 1, 1) := by decide +kernel
theorem dJ2_getChar_3b067_29 : decode cJ2_getChar_3b067 29 = .ok (.iconst 1, 1) := by decide +kernel
theorem dJ2_getChar_3b067_30 : decode cJ2_getChar_3b067 30 = .ok (.ishl, 1) := by decide +kernel
theorem dJ2_getChar_3b067_31 : decode cJ2_getChar_3b067 31 = .ok (.istore_n 1, 1) := by decide +kernel
theorem dJ2_getChar_3b067_32 : decode cJ2_getChar_3b067 32 = .ok (.aload_n 0, 1) := by decide +kernel
theorem dJ2_getChar_3b067_33 : decode cJ2_getChar_3b067 33 = .ok (.iload_n 1, 1) := by decide +kernel
theorem dJ2_getChar_3b067_34 : decode cJ2_getChar_3b067 34 = .ok (.iinc 1 1, 3) := by decide +kernel
theorem dJ2_getChar_3b067_37 : decode cJ2_getChar_3b067 37 = .ok (.baload, 1) := by decide +kernel
theorem dJ2_getChar_3b067_38 : decode cJ2_getChar_3b067 38 = .ok (.sipush 255, 3) := by decide +kernel
theorem dJ2_getChar_3b067_41 : decode cJ2_getChar_3b067 41 = .ok (.iand, 1) := by decide +kernel
theorem dJ2_getChar_3b067_42 : decode cJ2_getChar_3b067 42 = .ok (.getstatic 59, 3) := by decide +kernel
theorem dJ2_getChar_3b067_45 : decode cJ2_getChar_3b067 45 = .ok (.ishl, 1) := by decide +kernel
theorem dJ2_getChar_3b067_46 : decode cJ2_getChar_3b067 46 = .ok (.aload_n 0, 1) := by decide +kernel
theorem dJ2_getChar_3b067_47 : decode cJ2_getChar_3b067 47 = .ok (.iload_n 1, 1) := by decide +kernel
theorem dJ2_getChar_3b067_48 : decode cJ2_getChar_3b067 48 = .ok (.baload, 1) := by decide +kernel
theorem dJ2_getChar_3b067_49 : decode cJ2_getChar_3b067 49 = .ok (.sipush 255, 3) := by decide +kernel
theorem dJ2_getChar_3b067_52 : decode cJ2_getChar_3b067 52 = .ok (.iand, 1) := by decide +kernel
theorem dJ2_getChar_3b067_53 : decode cJ2_getChar_3b067 53 = .ok (.getstatic 63, 3) := by decide +kernel
theorem dJ2_getChar_3b067_56 : decode cJ2_getChar_3b067 56 = .ok (.ishl, 1) := by decide +kernel
theorem dJ2_getChar_3b067_57 : decode cJ2_getChar_3b067 57 = .ok (.ior, 1) := by decide +kernel
theorem dJ2_getChar_3b067_58 : decode cJ2_getChar_3b067 58 = .ok (.i2c, 1) := by decide +kernel
theorem dJ2_getChar_3b067_59 : decode cJ2_getChar_3b067 59 = .ok (.ireturn, 1) := by decide +kernel
theorem dJ2_length_9d52b_0 : decode cJ2_length_9d52b 0 = .ok (.aload_n 0, 1) := by decide +kernel
theorem dJ2_length_9d52b_1 : decode cJ2_length_9d52b 1 = .ok (.arraylength, 1) := by decide +kernel
theorem dJ2_length_9d52b_2 : decode cJ2_length_9d52b 2 = .ok (.iconst 1, 1) := by decide +kernel
theorem dJ2_length_9d52b_3 : decode cJ2_length_9d52b 3 = .ok (.ishr, 1) := by decide +kernel
theorem dJ2_length_9d52b_4 : decode cJ2_length_9d52b 4 = .ok (.ireturn, 1) := by decide +kernel
theorem dJ2_charAt_3b067_0 : decode cJ2_charAt_3b067 0 = .ok (.iload_n 1, 1) := by decide +kernel
theorem dJ2_charAt_3b067_1 : decode cJ2_charAt_3b067 1 = .ok (.aload_n 0, 1) := by decide +kernel
theorem dJ2_charAt_3b067_2 : decode cJ2_charAt_3b067 2 = .ok (.invokestatic 67, 3) := by decide +kernel
theorem dJ2_charAt_3b067_5 : decode cJ2_charAt_3b067 5 = .ok (.aload_n 0, 1) := by decide +kernel
theorem dJ2_charAt_3b067_6 : decode cJ2_charAt_3b067 6 = .ok (.iload_n 1, 1) := by decide +kernel
theorem dJ2_charAt_3b067_7 : decode cJ2_charAt_3b067 7 = .ok (.invokestatic 71, 3) := by decide +kernel
theorem dJ2_charAt_3b067_10 : decode cJ2_charAt_3b067 10 = .ok (.ireturn, 1) := by decide +kernel
theorem dJ2_checkIndex_2214a_0 : decode cJ2_checkIndex_2214a 0 = .ok (.iload_n 0, 1) := by decide +kernel
theorem dJ2_checkIndex_2214a_1 : decode cJ2_checkIndex_2214a 1 = .ok (.aload_n 1, 1) := by decide +kernel
theorem dJ2_checkIndex_2214a_2 : decode cJ2_checkIndex_2214a 2 = .ok (.invokestatic 48, 3) := by decide +kernel
theorem dJ2_checkIndex_2214a_5 : decode cJ2_checkIndex_2214a 5 = .ok (.invokestatic 414, 3) := by decide +kernel
theorem dJ2_checkIndex_2214a_8 : decode cJ2_checkIndex_2214a 8 = .ok (.return_, 1) := by decide +kernel
theorem dJ7_fill_d0a16_0 : decode cJ7_fill_d0a16 0 = .ok (.iconst 0, 1) := by decide +kernel
theorem dJ7_fill_d0a16_1 : decode cJ7_fill_d0a16 1 = .ok (.istore_n 3, 1) := by decide +kernel
theorem dJ7_fill_d0a16_2 : decode cJ7_fill_d0a16 2 = .ok (.aload_n 0, 1) := by decide +kernel
theorem dJ7_fill_d0a16_3 : decode cJ7_fill_d0a16 3 = .ok (.arraylength, 1) := by decide +kernel
theorem dJ7_fill_d0a16_4 : decode cJ7_fill_d0a16 4 = .ok (.istore 4, 2) := by decide +kernel
theorem dJ7_fill_d0a16_6 : decode cJ7_fill_d0a16 6 = .ok (.iload_n 3, 1) := by decide +kernel
theorem dJ7_fill_d0a16_7 : decode cJ7_fill_d0a16 7 = .ok (.iload 4, 2) := by decide +kernel
theorem dJ7_fill_d0a16_9 : decode cJ7_fill_d0a16 9 = .ok (.if_icmp .ge 13, 3) := by decide +kernel
theorem dJ7_fill_d0a16_12 : decode cJ7_fill_d0a16 12 = .ok (.aload_n 0, 1) := by decide +kernel
theorem dJ7_fill_d0a16_13 : decode cJ7_fill_d0a16 13 = .ok (.iload_n 3, 1) := by decide +kernel
theorem dJ7_fill_d0a16_14 : decode cJ7_fill_d0a16 14 = .ok (.lload_n 1, 1) := by decide +kernel
theorem dJ7_fill_d0a16_15 : decode cJ7_fill_d0a16 15 = .ok (.lastore, 1) := by decide +kernel
theorem dJ7_fill_d0a16_16 : decode cJ7_fill_d0a16 16 = .ok (.iinc 3 1, 3) := by decide +kernel
theorem dJ7_fill_d0a16_19 : decode cJ7_fill_d0a16 19 = .ok (.goto (-13), 3) := by decide +kernel
theorem dJ7_fill_d0a16_22 : decode cJ7_fill_d0a16 22 = .ok (.return_, 1) := by decide +kernel
theorem dJ7_fill_53178_0 : decode cJ7_fill_53178 0 = .ok (.iconst 0, 1) := by decide +kernel
theorem dJ7_fill_53178_1 : decode cJ7_fill_53178 1 = .ok (.istore_n 2, 1) := by decide +kernel
theorem dJ7_fill_53178_2 : decode cJ7_fill_53178 2 = .ok (.aload_n 0, 1) := by decide +kernel
theorem dJ7_fill_53178_3 : decode cJ7_fill_53178 3 = .ok (.arraylength, 1) := by decide +kernel
theorem dJ7_fill_53178_4 : decode cJ7_fill_53178 4 = .ok (.istore_n 3, 1) := by decide +kernel
theorem dJ7_fill_53178_5 : decode cJ7_fill_53178 5 = .ok (.iload_n 2, 1) := by decide +kernel
theorem dJ7_fill_53178_6 : decode cJ7_fill_53178 6 = .ok (.iload_n 3, 1) := by decide +kernel
theorem dJ7_fill_53178_7 : decode cJ7_fill_53178 7 = .ok (.if_icmp .ge 13, 3) := by decide +kernel
theorem dJ7_fill_53178_10 : decode cJ7_fill_53178 10 = .ok (.aload_n 0, 1) := by decide +kernel
theorem dJ7_fill_53178_11 : decode cJ7_fill_53178 11 = .ok (.iload_n 2, 1) := by decide +kernel
theorem dJ7_fill_53178_12 : decode cJ7_fill_53178 12 = .ok (.iload_n 1, 1) := by decide +kernel
theorem dJ7_fill_53178_13 : decode cJ7_fill_53178 13 = .ok (.iastore, 1) := by decide +kernel
theorem dJ7_fill_53178_14 : decode cJ7_fill_53178 14 = .ok (.iinc 2 1, 3) := by decide +kernel
theorem dJ7_fill_53178_17 : decode cJ7_fill_53178 17 = .ok (.goto (-12), 3) := by decide +kernel
theorem dJ7_fill_53178_20 : decode cJ7_fill_53178 20 = .ok (.return_, 1) := by decide +kernel
theorem dJ3_checkIndex_8e157_0 : decode cJ3_checkIndex_8e157 0 = .ok (.iload_n 0, 1) := by decide +kernel
theorem dJ3_checkIndex_8e157_1 : decode cJ3_checkIndex_8e157 1 = .ok (.ifCond .lt 8, 3) := by decide +kernel
theorem dJ3_checkIndex_8e157_4 : decode cJ3_checkIndex_8e157 4 = .ok (.iload_n 0, 1) := by decide +kernel
theorem dJ3_checkIndex_8e157_5 : decode cJ3_checkIndex_8e157 5 = .ok (.iload_n 1, 1) := by decide +kernel
theorem dJ3_checkIndex_8e157_6 : decode cJ3_checkIndex_8e157 6 = .ok (.if_icmp .lt 10, 3) := by decide +kernel
theorem dJ3_checkIndex_8e157_9 : decode cJ3_checkIndex_8e157 9 = .ok (.aload_n 2, 1) := by decide +kernel
theorem dJ3_checkIndex_8e157_10 : decode cJ3_checkIndex_8e157 10 = .ok (.iload_n 0, 1) := by decide +kernel
theorem dJ3_checkIndex_8e157_11 : decode cJ3_checkIndex_8e157 11 = .ok (.iload_n 1, 1) := by decide +kernel
theorem dJ3_checkIndex_8e157_12 : decode cJ3_checkIndex_8e157 12 = .ok (.invokestatic 95, 3) := by decide +kernel
theorem dJ3_checkIndex_8e157_15 : decode cJ3_checkIndex_8e157 15 = .ok (.athrow, 1) := by decide +kernel
theorem dJ3_checkIndex_8e157_16 : decode cJ3_checkIndex_8e157 16 = .ok (.iload_n 0, 1) := by decide +kernel
theorem dJ3_checkIndex_8e157_17 : decode cJ3_checkIndex_8e157 17 = .ok (.ireturn, 1) := by decide +kernel
theorem dL_led_0 : decode cL_led 0 = .ok (.aload 5, 2) := by decide +kernel
theorem dL_led_2 : decode cL_led 2 = .ok (.iconst 0, 1) := by decide +kernel
theorem dL_led_3 : decode cL_led 3 = .ok (.aload_n 0, 1) := by decide +kernel
theorem dL_led_4 : decode cL_led 4 = .ok (.iload_n 1, 1) := by decide +kernel
theorem dL_led_5 : decode cL_led 5 = .ok (.iload_n 2, 1) := by decide +kernel
theorem dL_led_6 : decode cL_led 6 = .ok (.iload_n 3, 1) := by decide +kernel
theorem dL_led_7 : decode cL_led 7 = .ok (.iload 4, 2) := by decide +kernel
theorem dL_led_9 : decode cL_led 9 = .ok (.invokevirtual 7, 3) := by decide +kernel
theorem dL_led_12 : decode cL_led 12 = .ok (.i2l, 1) := by decide +kernel
theorem dL_led_13 : decode cL_led 13 = .ok (.lastore, 1) := by decide +kernel
theorem dL_led_14 : decode cL_led 14 = .ok (.goto 7, 3) := by decide +kernel
theorem dL_led_17 : decode cL_led 17 = .ok (.astore 6, 2) := by decide +kernel
theorem dL_led_19 : decode cL_led 19 = .ok (.iconst 1, 1) := by decide +kernel
theorem dL_led_20 : decode cL_led 20 = .ok (.ireturn, 1) := by decide +kernel
theorem dL_led_21 : decode cL_led 21 = .ok (.iconst 0, 1) := by decide +kernel
theorem dL_led_22 : decode cL_led 22 = .ok (.ireturn, 1) := by decide +kernel
theorem dL_law_0 : decode cL_law 0 = .ok (.new 8, 3) := by decide +kernel
theorem dL_law_3 : decode cL_law 3 = .ok (.dup, 1) := by decide +kernel
theorem dL_law_4 : decode cL_law 4 = .ok (.invokespecial 15, 3) := by decide +kernel
theorem dL_law_7 : decode cL_law 7 = .ok (.astore_n 1, 1) := by decide +kernel
theorem dL_law_8 : decode cL_law 8 = .ok (.new 16, 3) := by decide +kernel
theorem dL_law_11 : decode cL_law 11 = .ok (.dup, 1) := by decide +kernel
theorem dL_law_12 : decode cL_law 12 = .ok (.invokespecial 18, 3) := by decide +kernel
theorem dL_law_15 : decode cL_law 15 = .ok (.astore_n 2, 1) := by decide +kernel
theorem dL_law_16 : decode cL_law 16 = .ok (.iconst 1, 1) := by decide +kernel
theorem dL_law_17 : decode cL_law 17 = .ok (.newarray .long, 2) := by decide +kernel
theorem dL_law_19 : decode cL_law 19 = .ok (.astore_n 3, 1) := by decide +kernel
theorem dL_law_20 : decode cL_law 20 = .ok (.iconst 0, 1) := by decide +kernel
theorem dL_law_21 : decode cL_law 21 = .ok (.istore 4, 2) := by decide +kernel
theorem dL_law_23 : decode cL_law 23 = .ok (.iload 4, 2) := by decide +kernel
theorem dL_law_25 : decode cL_law 25 = .ok (.aload_n 0, 1) := by decide +kernel
theorem dL_law_26 : decode cL_law 26 = .ok (.arraylength, 1) := by decide +kernel
theorem dL_law_27 : decode cL_law 27 = .ok (.bipush 7, 2) := by decide +kernel
theorem dL_law_29 : decode cL_law 29 = .ok (.isub, 1) := by decide +kernel
theorem dL_law_30 : decode cL_law 30 = .ok (.if_icmp .gt 1681, 3) := by decide +kernel
theorem dL_law_33 : decode cL_law 33 = .ok (.aload_n 0, 1) := by decide +kernel
theorem dL_law_34 : decode cL_law 34 = .ok (.iload 4, 2) := by decide +kernel
theorem dL_law_36 : decode cL_law 36 = .ok (.iaload, 1) := by decide +kernel
theorem dL_law_37 : decode cL_law 37 = .ok (.bipush 63, 2) := by decide +kernel
theorem dL_law_39 : decode cL_law 39 = .ok (.iand, 1) := by decide +kernel
theorem dL_law_40 : decode cL_law 40 = .ok (.tableswitch 1665 0 32 #[148, 221, 246, 271, 284, 297, 334, 421, 458, 483, 544, 581, 606, 619, 656, 681, 755, 833, 907, 956, 1034, 1083, 1144, 1181, 1206, 1329, 1398, 1423, 1460, 1485, 1535, 1627, 1652], 148) := by decide +kernel
theorem dL_law_188 : decode cL_law 188 = .ok (.aload_n 1, 1) := by decide +kernel
theorem dL_law_189 : decode cL_law 189 = .ok (.aload_n 0, 1) := by decide +kernel
theorem dL_law_190 : decode cL_law 190 = .ok (.iload 4, 2) := by decide +kernel
theorem dL_law_192 : decode cL_law 192 = .ok (.iconst 1, 1) := by decide +kernel
theorem dL_law_193 : decode cL_law 193 = .ok (.iadd, 1) := by decide +kernel
theorem dL_law_194 : decode cL_law 194 = .ok (.iaload, 1) := by decide +kernel
theorem dL_law_195 : decode cL_law 195 = .ok (.aload_n 0, 1) := by decide +kernel
theorem dL_law_196 : decode cL_law 196 = .ok (.iload 4, 2) := by decide +kernel
theorem dL_law_198 : decode cL_law 198 = .ok (.iconst 2, 1) := by decide +kernel
theorem dL_law_199 : decode cL_law 199 = .ok (.iadd, 1) := by decide +kernel
theorem dL_law_200 : decode cL_law 200 = .ok (.iaload, 1) := by decide +kernel
theorem dL_law_201 : decode cL_law 201 = .ok (.aload_n 0, 1) := by decide +kernel
theorem dL_law_202 : decode cL_law 202 = .ok (.iload 4, 2) := by decide +kernel
theorem dL_law_204 : decode cL_law 204 = .ok (.iconst 3, 1) := by decide +kernel
theorem dL_law_205 : decode cL_law 205 = .ok (.iadd, 1) := by decide +kernel
theorem dL_law_206 : decode cL_law 206 = .ok (.iaload, 1) := by decide +kernel
theorem dL_law_207 : decode cL_law 207 = .ok (.aload_n 0, 1) := by decide +kernel
theorem dL_law_208 : decode cL_law 208 = .ok (.iload 4, 2) := by decide +kernel
theorem dL_law_210 : decode cL_law 210 = .ok (.iconst 4, 1) := by decide +kernel
theorem dL_law_211 : decode cL_law 211 = .ok (.iadd, 1) := by decide +kernel
theorem dL_law_212 : decode cL_law 212 = .ok (.iaload, 1) := by decide +kernel
theorem dL_law_213 : decode cL_law 213 = .ok (.aload_n 0, 1) := by decide +kernel
theorem dL_law_214 : decode cL_law 214 = .ok (.iload 4, 2) := by decide +kernel
theorem dL_law_216 : decode cL_law 216 = .ok (.iconst 5, 1) := by decide +kernel
theorem dL_law_217 : decode cL_law 217 = .ok (.iadd, 1) := by decide +kernel
theorem dL_law_218 : decode cL_law 218 = .ok (.iaload, 1) := by decide +kernel
theorem dL_law_219 : decode cL_law 219 = .ok (.invokevirtual 19, 3) := by decide +kernel
theorem dL_law_222 : decode cL_law 222 = .ok (.aload_n 2, 1) := by decide +kernel
theorem dL_law_223 : decode cL_law 223 = .ok (.aload_n 0, 1) := by decide +kernel
theorem dL_law_224 : decode cL_law 224 = .ok (.iload 4, 2) := by decide +kernel
theorem dL_law_226 : decode cL_law 226 = .ok (.iconst 1, 1) := by decide +kernel
theorem dL_law_227 : decode cL_law 227 = .ok (.iadd, 1) := by decide +kernel
theorem dL_law_228 : decode cL_law 228 = .ok (.iaload, 1) := by decide +kernel
theorem dL_law_229 : decode cL_law 229 = .ok (.aload_n 0, 1) := by decide +kernel
theorem dL_law_230 : decode cL_law 230 = .ok (.iload 4, 2) := by decide +kernel
theorem dL_law_232 : decode cL_law 232 = .ok (.iconst 2, 1) := by decide +kernel
theorem dL_law_233 : decode cL_law 233 = .ok (.iadd, 1) := by decide +kernel
theorem dL_law_234 : decode cL_law 234 = .ok (.iaload, 1) := by decide +kernel
theorem dL_law_235 : decode cL_law 235 = .ok (.aload_n 0, 1) := by decide +kernel
theorem dL_law_236 : decode cL_law 236 = .ok (.iload 4, 2) := by decide +kernel
theorem dL_law_238 : decode cL_law 238 = .ok (.iconst 3, 1) := by decide +kernel
theorem dL_law_239 : decode cL_law 239 = .ok (.iadd, 1) := by decide +kernel
theorem dL_law_240 : decode cL_law 240 = .ok (.iaload, 1) := by decide +kernel
theorem dL_law_241 : decode cL_law 241 = .ok (.aload_n 0, 1) := by decide +kernel
theorem dL_law_242 : decode cL_law 242 = .ok (.iload 4, 2) := by decide +kernel
theorem dL_law_244 : decode cL_law 244 = .ok (.iconst 4, 1) := by decide +kernel
theorem dL_law_245 : decode cL_law 245 = .ok (.iadd, 1) := by decide +kernel
theorem dL_law_246 : decode cL_law 246 = .ok (.iaload, 1) := by decide +kernel
theorem dL_law_247 : decode cL_law 247 = .ok (.aload_n 0, 1) := by decide +kernel
theorem dL_law_248 : decode cL_law 248 = .ok (.iload 4, 2) := by decide +kernel
theorem dL_law_250 : decode cL_law 250 = .ok (.iconst 5, 1) := by decide +kernel
theorem dL_law_251 : decode cL_law 251 = .ok (.iadd, 1) := by decide +kernel
theorem dL_law_252 : decode cL_law 252 = .ok (.iaload, 1) := by decide +kernel
theorem dL_law_253 : decode cL_law 253 = .ok (.invokevirtual 23, 3) := by decide +kernel
theorem dL_law_256 : decode cL_law 256 = .ok (.if_icmp .eq 1449, 3) := by decide +kernel
theorem dL_law_259 : decode cL_law 259 = .ok (.iconst 0, 1) := by decide +kernel
theorem dL_law_260 : decode cL_law 260 = .ok (.ireturn, 1) := by decide +kernel
theorem dL_law_261 : decode cL_law 261 = .ok (.aload_n 1, 1) := by decide +kernel
theorem dL_law_262 : decode cL_law 262 = .ok (.aload_n 0, 1) := by decide +kernel
theorem dL_law_263 : decode cL_law 263 = .ok (.iload 4, 2) := by decide +kernel
theorem dL_law_265 : decode cL_law 265 = .ok (.iconst 1, 1) := by decide +kernel
theorem dL_law_266 : decode cL_law 266 = .ok (.iadd, 1) := by decide +kernel
theorem dL_law_267 : decode cL_law 267 = .ok (.iaload, 1) := by decide +kernel
theorem dL_law_268 : decode cL_law 268 = .ok (.invokevirtual 24, 3) := by decide +kernel
theorem dL_law_271 : decode cL_law 271 = .ok (.aload_n 2, 1) := by decide +kernel
theorem dL_law_272 : decode cL_law 272 = .ok (.aload_n 0, 1) := by decide +kernel
theorem dL_law_273 : decode cL_law 273 = .ok (.iload 4, 2) := by decide +kernel
theorem dL_law_275 : decode cL_law 275 = .ok (.iconst 1, 1) := by decide +kernel
theorem dL_law_276 : decode cL_law 276 = .ok (.iadd, 1) := by decide +kernel
theorem dL_law_277 : decode cL_law 277 = .ok (.iaload, 1) := by decide +kernel
theorem dL_law_278 : decode cL_law 278 = .ok (.invokevirtual 28, 3) := by decide +kernel
theorem dL_law_281 : decode cL_law 281 = .ok (.if_icmp .eq 1424, 3) := by decide +kernel
theorem dL_law_284 : decode cL_law 284 = .ok (.iconst 0, 1) := by decide +kernel
theorem dL_law_285 : decode cL_law 285 = .ok (.ireturn, 1) := by decide +kernel
theorem dL_law_286 : decode cL_law 286 = .ok (.aload_n 1, 1) := by decide +kernel
theorem dL_law_287 : decode cL_law 287 = .ok (.aload_n 0, 1) := by decide +kernel
theorem dL_law_288 : decode cL_law 288 = .ok (.iload 4, 2) := by decide +kernel
theorem dL_law_290 : decode cL_law 290 = .ok (.iconst 1, 1) := by decide +kernel
theorem dL_law_291 : decode cL_law 291 = .ok (.iadd, 1) := by decide +kernel
theorem dL_law_292 : decode cL_law 292 = .ok (.iaload, 1) := by decide +kernel
theorem dL_law_293 : decode cL_law 293 = .ok (.invokevirtual 29, 3) := by decide +kernel
theorem dL_law_296 : decode cL_law 296 = .ok (.aload_n 2, 1) := by decide +kernel
theorem dL_law_297 : decode cL_law 297 = .ok (.aload_n 0, 1) := by decide +kernel
theorem dL_law_298 : decode cL_law 298 = .ok (.iload 4, 2) := by decide +kernel
theorem dL_law_300 : decode cL_law 300 = .ok (.iconst 1, 1) := by decide +kernel
theorem dL_law_301 : decode cL_law 301 = .ok (.iadd, 1) := by decide +kernel
theorem dL_law_302 : decode cL_law 302 = .ok (.iaload, 1) := by decide +kernel
theorem dL_law_303 : decode cL_law 303 = .ok (.invokevirtual 32, 3) := by decide +kernel
theorem dL_law_306 : decode cL_law 306 = .ok (.if_icmp .eq 1399, 3) := by decide +kernel
theorem dL_law_309 : decode cL_law 309 = .ok (.iconst 0, 1) := by decide +kernel
theorem dL_law_310 : decode cL_law 310 = .ok (.ireturn, 1) := by decide +kernel
theorem dL_law_311 : decode cL_law 311 = .ok (.aload_n 1, 1) := by decide +kernel
theorem dL_law_312 : decode cL_law 312 = .ok (.invokevirtual 33, 3) := by decide +kernel
theorem dL_law_315 : decode cL_law 315 = .ok (.aload_n 2, 1) := by decide +kernel
theorem dL_law_316 : decode cL_law 316 = .ok (.invokevirtual 37, 3) := by decide +kernel
theorem dL_law_319 : decode cL_law 319 = .ok (.if_icmp .eq 1386, 3) := by decide +kernel
theorem dL_law_322 : decode cL_law 322 = .ok (.iconst 0, 1) := by decide +kernel
theorem dL_law_323 : decode cL_law 323 = .ok (.ireturn, 1) := by decide +kernel
theorem dL_law_324 : decode cL_law 324 = .ok (.aload_n 1, 1) := by decide +kernel
theorem dL_law_325 : decode cL_law 325 = .ok (.invokevirtual 38, 3) := by decide +kernel
theorem dL_law_328 : decode cL_law 328 = .ok (.aload_n 2, 1) := by decide +kernel
theorem dL_law_329 : decode cL_law 329 = .ok (.invokevirtual 41, 3) := by decide +kernel
theorem dL_law_332 : decode cL_law 332 = .ok (.if_icmp .eq 1373, 3) := by decide +kernel
theorem dL_law_335 : decode cL_law 335 = .ok (.iconst 0, 1) := by decide +kernel
theorem dL_law_336 : decode cL_law 336 = .ok (.ireturn, 1) := by decide +kernel
theorem dL_law_337 : decode cL_law 337 = .ok (.aload_n 1, 1) := by decide +kernel
theorem dL_law_338 : decode cL_law 338 = .ok (.aload_n 0, 1) := by decide +kernel
theorem dL_law_339 : decode cL_law 339 = .ok (.iload 4, 2) := by decide +kernel
theorem dL_law_341 : decode cL_law 341 = .ok (.iconst 1, 1) := by decide +kernel
theorem dL_law_342 : decode cL_law 342 = .ok (.iadd, 1) := by decide +kernel
theorem dL_law_343 : decode cL_law 343 = .ok (.iaload, 1) := by decide +kernel
theorem dL_law_344 : decode cL_law 344 = .ok (.aload_n 0, 1) := by decide +kernel
theorem dL_law_345 : decode cL_law 345 = .ok (.iload 4, 2) := by decide +kernel
theorem dL_law_347 : decode cL_law 347 = .ok (.iconst 2, 1) := by decide +kernel
theorem dL_law_348 : decode cL_law 348 = .ok (.iadd, 1) := by decide +kernel
theorem dL_law_349 : decode cL_law 349 = .ok (.iaload, 1) := by decide +kernel
theorem dL_law_350 : decode cL_law 350 = .ok (.invokevirtual 42, 3) := by decide +kernel
theorem dL_law_353 : decode cL_law 353 = .ok (.aload_n 2, 1) := by decide +kernel
theorem dL_law_354 : decode cL_law 354 = .ok (.aload_n 0, 1) := by decide +kernel
theorem dL_law_355 : decode cL_law 355 = .ok (.iload 4, 2) := by decide +kernel
theorem dL_law_357 : decode cL_law 357 = .ok (.iconst 1, 1) := by decide +kernel
theorem dL_law_358 : decode cL_law 358 = .ok (.iadd, 1) := by decide +kernel
theorem dL_law_359 : decode cL_law 359 = .ok (.iaload, 1) := by decide +kernel
theorem dL_law_360 : decode cL_law 360 = .ok (.aload_n 0, 1) := by decide +kernel
theorem dL_law_361 : decode cL_law 361 = .ok (.iload 4, 2) := by decide +kernel
theorem dL_law_363 : decode cL_law 363 = .ok (.iconst 2, 1) := by decide +kernel
theorem dL_law_364 : decode cL_law 364 = .ok (.iadd, 1) := by decide +kernel
theorem dL_law_365 : decode cL_law 365 = .ok (.iaload, 1) := by decide +kernel
theorem dL_law_366 : decode cL_law 366 = .ok (.invokevirtual 46, 3) := by decide +kernel
theorem dL_law_369 : decode cL_law 369 = .ok (.if_icmp .eq 1336, 3) := by decide +kernel
theorem dL_law_372 : decode cL_law 372 = .ok (.iconst 0, 1) := by decide +kernel
theorem dL_law_373 : decode cL_law 373 = .ok (.ireturn, 1) := by decide +kernel
theorem dL_law_374 : decode cL_law 374 = .ok (.aload_n 1, 1) := by decide +kernel
theorem dL_law_375 : decode cL_law 375 = .ok (.aload_n 0, 1) := by decide +kernel
theorem dL_law_376 : decode cL_law 376 = .ok (.iload 4, 2) := by decide +kernel
theorem dL_law_378 : decode cL_law 378 = .ok (.iconst 1, 1) := by decide +kernel
theorem dL_law_379 : decode cL_law 379 = .ok (.iadd, 1) := by decide +kernel
theorem dL_law_380 : decode cL_law 380 = .ok (.iaload, 1) := by decide +kernel
theorem dL_law_381 : decode cL_law 381 = .ok (.aload_n 0, 1) := by decide +kernel
theorem dL_law_382 : decode cL_law 382 = .ok (.iload 4, 2) := by decide +kernel
theorem dL_law_384 : decode cL_law 384 = .ok (.iconst 2, 1) := by decide +kernel
theorem dL_law_385 : decode cL_law 385 = .ok (.iadd, 1) := by decide +kernel
theorem dL_law_386 : decode cL_law 386 = .ok (.iaload, 1) := by decide +kernel
theorem dL_law_387 : decode cL_law 387 = .ok (.aload_n 0, 1) := by decide +kernel
theorem dL_law_388 : decode cL_law 388 = .ok (.iload 4, 2) := by decide +kernel
theorem dL_law_390 : decode cL_law 390 = .ok (.iconst 3, 1) := by decide +kernel
theorem dL_law_391 : decode cL_law 391 = .ok (.iadd, 1) := by decide +kernel
theorem dL_law_392 : decode cL_law 392 = .ok (.iaload, 1) := by decide +kernel
theorem dL_law_393 : decode cL_law 393 = .ok (.aload_n 0, 1) := by decide +kernel
theorem dL_law_394 : decode cL_law 394 = .ok (.iload 4, 2) := by decide +kernel
theorem dL_law_396 : decode cL_law 396 = .ok (.iconst 4, 1) := by decide +kernel
theorem dL_law_397 : decode cL_law 397 = .ok (.iadd, 1) := by decide +kernel
theorem dL_law_398 : decode cL_law 398 = .ok (.iaload, 1) := by decide +kernel
theorem dL_law_399 : decode cL_law 399 = .ok (.aload_n 0, 1) := by decide +kernel
theorem dL_law_400 : decode cL_law 400 = .ok (.iload 4, 2) := by decide +kernel
theorem dL_law_402 : decode cL_law 402 = .ok (.iconst 5, 1) := by decide +kernel
theorem dL_law_403 : decode cL_law 403 = .ok (.iadd, 1) := by decide +kernel
theorem dL_law_404 : decode cL_law 404 = .ok (.iaload, 1) := by decide +kernel
theorem dL_law_405 : decode cL_law 405 = .ok (.aload_n 0, 1) := by decide +kernel
theorem dL_law_406 : decode cL_law 406 = .ok (.iload 4, 2) := by decide +kernel
theorem dL_law_408 : decode cL_law 408 = .ok (.bipush 6, 2) := by decide +kernel
theorem dL_law_410 : decode cL_law 410 = .ok (.iadd, 1) := by decide +kernel
theorem dL_law_411 : decode cL_law 411 = .ok (.iaload, 1) := by decide +kernel
theorem dL_law_412 : decode cL_law 412 = .ok (.invokevirtual 47, 3) := by decide +kernel
theorem dL_law_415 : decode cL_law 415 = .ok (.aload_n 2, 1) := by decide +kernel
theorem dL_law_416 : decode cL_law 416 = .ok (.aload_n 0, 1) := by decide +kernel
theorem dL_law_417 : decode cL_law 417 = .ok (.iload 4, 2) := by decide +kernel
theorem dL_law_419 : decode cL_law 419 = .ok (.iconst 1, 1) := by decide +kernel
theorem dL_law_420 : decode cL_law 420 = .ok (.iadd, 1) := by decide +kernel
theorem dL_law_421 : decode cL_law 421 = .ok (.iaload, 1) := by decide +kernel
theorem dL_law_422 : decode cL_law 422 = .ok (.aload_n 0, 1) := by decide +kernel
theorem dL_law_423 : decode cL_law 423 = .ok (.iload 4, 2) := by decide +kernel
theorem dL_law_425 : decode cL_law 425 = .ok (.iconst 2, 1) := by decide +kernel
theorem dL_law_426 : decode cL_law 426 = .ok (.iadd, 1) := by decide +kernel
theorem dL_law_427 : decode cL_law 427 = .ok (.iaload, 1) := by decide +kernel
theorem dL_law_428 : decode cL_law 428 = .ok (.aload_n 0, 1) := by decide +kernel
theorem dL_law_429 : decode cL_law 429 = .ok (.iload 4, 2) := by decide +kernel
theorem dL_law_431 : decode cL_law 431 = .ok (.iconst 3, 1) := by decide +kernel
theorem dL_law_432 : decode cL_law 432 = .ok (.iadd, 1) := by decide +kernel
theorem dL_law_433 : decode cL_law 433 = .ok (.iaload, 1) := by decide +kernel
theorem dL_law_434 : decode cL_law 434 = .ok (.aload_n 0, 1) := by decide +kernel
theorem dL_law_435 : decode cL_law 435 = .ok (.iload 4, 2) := by decide +kernel
theorem dL_law_437 : decode cL_law 437 = .ok (.iconst 4, 1) := by decide +kernel
theorem dL_law_438 : decode cL_law 438 = .ok (.iadd, 1) := by decide +kernel
theorem dL_law_439 : decode cL_law 439 = .ok (.iaload, 1) := by decide +kernel
theorem dL_law_440 : decode cL_law 440 = .ok (.aload_n 0, 1) := by decide +kernel
theorem dL_law_441 : decode cL_law 441 = .ok (.iload 4, 2) := by decide +kernel
theorem dL_law_443 : decode cL_law 443 = .ok (.iconst 5, 1) := by decide +kernel
theorem dL_law_444 : decode cL_law 444 = .ok (.iadd, 1) := by decide +kernel
theorem dL_law_445 : decode cL_law 445 = .ok (.iaload, 1) := by decide +kernel
theorem dL_law_446 : decode cL_law 446 = .ok (.aload_n 0, 1) := by decide +kernel
theorem dL_law_447 : decode cL_law 447 = .ok (.iload 4, 2) := by decide +kernel
theorem dL_law_449 : decode cL_law 449 = .ok (.bipush 6, 2) := by decide +kernel
theorem dL_law_451 : decode cL_law 451 = .ok (.iadd, 1) := by decide +kernel
theorem dL_law_452 : decode cL_law 452 = .ok (.iaload, 1) := by decide +kernel
theorem dL_law_453 : decode cL_law 453 = .ok (.invokevirtual 51, 3) := by decide +kernel
theorem dL_law_456 : decode cL_law 456 = .ok (.if_icmp .eq 1249, 3) := by decide +kernel
theorem dL_law_459 : decode cL_law 459 = .ok (.iconst 0, 1) := by decide +kernel
theorem dL_law_460 : decode cL_law 460 = .ok (.ireturn, 1) := by decide +kernel
theorem dL_law_461 : decode cL_law 461 = .ok (.aload_n 1, 1) := by decide +kernel
theorem dL_law_462 : decode cL_law 462 = .ok (.aload_n 0, 1) := by decide +kernel
theorem dL_law_463 : decode cL_law 463 = .ok (.iload 4, 2) := by decide +kernel
theorem dL_law_465 : decode cL_law 465 = .ok (.iconst 1, 1) := by decide +kernel
theorem dL_law_466 : decode cL_law 466 = .ok (.iadd, 1) := by decide +kernel
theorem dL_law_467 : decode cL_law 467 = .ok (.iaload, 1) := by decide +kernel
theorem dL_law_468 : decode cL_law 468 = .ok (.aload_n 0, 1) := by decide +kernel
theorem dL_law_469 : decode cL_law 469 = .ok (.iload 4, 2) := by decide +kernel
theorem dL_law_471 : decode cL_law 471 = .ok (.iconst 2, 1) := by decide +kernel
theorem dL_law_472 : decode cL_law 472 = .ok (.iadd, 1) := by decide +kernel
theorem dL_law_473 : decode cL_law 473 = .ok (.iaload, 1) := by decide +kernel
theorem dL_law_474 : decode cL_law 474 = .ok (.invokevirtual 52, 3) := by decide +kernel
theorem dL_law_477 : decode cL_law 477 = .ok (.aload_n 2, 1) := by decide +kernel
theorem dL_law_478 : decode cL_law 478 = .ok (.aload_n 0, 1) := by decide +kernel
theorem dL_law_479 : decode cL_law 479 = .ok (.iload 4, 2) := by decide +kernel
theorem dL_law_481 : decode cL_law 481 = .ok (.iconst 1, 1) := by decide +kernel
theorem dL_law_482 : decode cL_law 482 = .ok (.iadd, 1) := by decide +kernel
theorem dL_law_483 : decode cL_law 483 = .ok (.iaload, 1) := by decide +kernel
theorem dL_law_484 : decode cL_law 484 = .ok (.aload_n 0, 1) := by decide +kernel
theorem dL_law_485 : decode cL_law 485 = .ok (.iload 4, 2) := by decide +kernel
theorem dL_law_487 : decode cL_law 487 = .ok (.iconst 2, 1) := by decide +kernel
theorem dL_law_488 : decode cL_law 488 = .ok (.iadd, 1) := by decide +kernel
theorem dL_law_489 : decode cL_law 489 = .ok (.iaload, 1) := by decide +kernel
theorem dL_law_490 : decode cL_law 490 = .ok (.invokevirtual 56, 3) := by decide +kernel
theorem dL_law_493 : decode cL_law 493 = .ok (.if_icmp .eq 1212, 3) := by decide +kernel
theorem dL_law_496 : decode cL_law 496 = .ok (.iconst 0, 1) := by decide +kernel
theorem dL_law_497 : decode cL_law 497 = .ok (.ireturn, 1) := by decide +kernel
theorem dL_law_498 : decode cL_law 498 = .ok (.aload_n 1, 1) := by decide +kernel
theorem dL_law_499 : decode cL_law 499 = .ok (.aload_n 0, 1) := by decide +kernel
theorem dL_law_500 : decode cL_law 500 = .ok (.iload 4, 2) := by decide +kernel
theorem dL_law_502 : decode cL_law 502 = .ok (.iconst 1, 1) := by decide +kernel
theorem dL_law_503 : decode cL_law 503 = .ok (.iadd, 1) := by decide +kernel
theorem dL_law_504 : decode cL_law 504 = .ok (.iaload, 1) := by decide +kernel
theorem dL_law_505 : decode cL_law 505 = .ok (.invokevirtual 57, 3) := by decide +kernel
theorem dL_law_508 : decode cL_law 508 = .ok (.aload_n 2, 1) := by decide +kernel
theorem dL_law_509 : decode cL_law 509 = .ok (.aload_n 0, 1) := by decide +kernel
theorem dL_law_510 : decode cL_law 510 = .ok (.iload 4, 2) := by decide +kernel
theorem dL_law_512 : decode cL_law 512 = .ok (.iconst 1, 1) := by decide +kernel
theorem dL_law_513 : decode cL_law 513 = .ok (.iadd, 1) := by decide +kernel
theorem dL_law_514 : decode cL_law 514 = .ok (.iaload, 1) := by decide +kernel
theorem dL_law_515 : decode cL_law 515 = .ok (.invokevirtual 61, 3) := by decide +kernel
theorem dL_law_518 : decode cL_law 518 = .ok (.if_icmp .eq 1187, 3) := by decide +kernel
theorem dL_law_521 : decode cL_law 521 = .ok (.iconst 0, 1) := by decide +kernel
theorem dL_law_522 : decode cL_law 522 = .ok (.ireturn, 1) := by decide +kernel
theorem dL_law_523 : decode cL_law 523 = .ok (.aload_n 1, 1) := by decide +kernel
theorem dL_law_524 : decode cL_law 524 = .ok (.aload_n 0, 1) := by decide +kernel
theorem dL_law_525 : decode cL_law 525 = .ok (.iload 4, 2) := by decide +kernel
theorem dL_law_527 : decode cL_law 527 = .ok (.iconst 1, 1) := by decide +kernel
theorem dL_law_528 : decode cL_law 528 = .ok (.iadd, 1) := by decide +kernel
theorem dL_law_529 : decode cL_law 529 = .ok (.iaload, 1) := by decide +kernel
theorem dL_law_530 : decode cL_law 530 = .ok (.aload_n 0, 1) := by decide +kernel
theorem dL_law_531 : decode cL_law 531 = .ok (.iload 4, 2) := by decide +kernel
theorem dL_law_533 : decode cL_law 533 = .ok (.iconst 2, 1) := by decide +kernel
theorem dL_law_534 : decode cL_law 534 = .ok (.iadd, 1) := by decide +kernel
theorem dL_law_535 : decode cL_law 535 = .ok (.iaload, 1) := by decide +kernel
theorem dL_law_536 : decode cL_law 536 = .ok (.aload_n 0, 1) := by decide +kernel
theorem dL_law_537 : decode cL_law 537 = .ok (.iload 4, 2) := by decide +kernel
theorem dL_law_539 : decode cL_law 539 = .ok (.iconst 3, 1) := by decide +kernel
theorem dL_law_540 : decode cL_law 540 = .ok (.iadd, 1) := by decide +kernel
theorem dL_law_541 : decode cL_law 541 = .ok (.iaload, 1) := by decide +kernel
theorem dL_law_542 : decode cL_law 542 = .ok (.aload_n 0, 1) := by decide +kernel
theorem dL_law_543 : decode cL_law 543 = .ok (.iload 4, 2) := by decide +kernel
theorem dL_law_545 : decode cL_law 545 = .ok (.iconst 4, 1) := by decide +kernel
theorem dL_law_546 : decode cL_law 546 = .ok (.iadd, 1) := by decide +kernel
theorem dL_law_547 : decode cL_law 547 = .ok (.iaload, 1) := by decide +kernel
theorem dL_law_548 : decode cL_law 548 = .ok (.invokevirtual 62, 3) := by decide +kernel
theorem dL_law_551 : decode cL_law 551 = .ok (.aload_n 2, 1) := by decide +kernel
theorem dL_law_552 : decode cL_law 552 = .ok (.aload_n 0, 1) := by decide +kernel
theorem dL_law_553 : decode cL_law 553 = .ok (.iload 4, 2) := by decide +kernel
theorem dL_law_555 : decode cL_law 555 = .ok (.iconst 1, 1) := by decide +kernel
theorem dL_law_556 : decode cL_law 556 = .ok (.iadd, 1) := by decide +kernel
theorem dL_law_557 : decode cL_law 557 = .ok (.iaload, 1) := by decide +kernel
theorem dL_law_558 : decode cL_law 558 = .ok (.aload_n 0, 1) := by decide +kernel
theorem dL_law_559 : decode cL_law 559 = .ok (.iload 4, 2) := by decide +kernel
theorem dL_law_561 : decode cL_law 561 = .ok (.iconst 2, 1) := by decide +kernel
theorem dL_law_562 : decode cL_law 562 = .ok (.iadd, 1) := by decide +kernel
theorem dL_law_563 : decode cL_law 563 = .ok (.iaload, 1) := by decide +kernel
theorem dL_law_564 : decode cL_law 564 = .ok (.aload_n 0, 1) := by decide +kernel
theorem dL_law_565 : decode cL_law 565 = .ok (.iload 4, 2) := by decide +kernel
theorem dL_law_567 : decode cL_law 567 = .ok (.iconst 3, 1) := by decide +kernel
theorem dL_law_568 : decode cL_law 568 = .ok (.iadd, 1) := by decide +kernel
theorem dL_law_569 : decode cL_law 569 = .ok (.iaload, 1) := by decide +kernel
theorem dL_law_570 : decode cL_law 570 = .ok (.aload_n 0, 1) := by decide +kernel
theorem dL_law_571 : decode cL_law 571 = .ok (.iload 4, 2) := by decide +kernel
theorem dL_law_573 : decode cL_law 573 = .ok (.iconst 4, 1) := by decide +kernel
theorem dL_law_574 : decode cL_law 574 = .ok (.iadd, 1) := by decide +kernel
theorem dL_law_575 : decode cL_law 575 = .ok (.iaload, 1) := by decide +kernel
theorem dL_law_576 : decode cL_law 576 = .ok (.invokevirtual 65, 3) := by decide +kernel
theorem dL_law_579 : decode cL_law 579 = .ok (.if_icmp .eq 1126, 3) := by decide +kernel
theorem dL_law_582 : decode cL_law 582 = .ok (.iconst 0, 1) := by decide +kernel
theorem dL_law_583 : decode cL_law 583 = .ok (.ireturn, 1) := by decide +kernel
theorem dL_law_584 : decode cL_law 584 = .ok (.aload_n 1, 1) := by decide +kernel
theorem dL_law_585 : decode cL_law 585 = .ok (.aload_n 0, 1) := by decide +kernel
theorem dL_law_586 : decode cL_law 586 = .ok (.iload 4, 2) := by decide +kernel
theorem dL_law_588 : decode cL_law 588 = .ok (.iconst 1, 1) := by decide +kernel
theorem dL_law_589 : decode cL_law 589 = .ok (.iadd, 1) := by decide +kernel
theorem dL_law_590 : decode cL_law 590 = .ok (.iaload, 1) := by decide +kernel
theorem dL_law_591 : decode cL_law 591 = .ok (.aload_n 0, 1) := by decide +kernel
theorem dL_law_592 : decode cL_law 592 = .ok (.iload 4, 2) := by decide +kernel
theorem dL_law_594 : decode cL_law 594 = .ok (.iconst 2, 1) := by decide +kernel
theorem dL_law_595 : decode cL_law 595 = .ok (.iadd, 1) := by decide +kernel
theorem dL_law_596 : decode cL_law 596 = .ok (.iaload, 1) := by decide +kernel
theorem dL_law_597 : decode cL_law 597 = .ok (.invokevirtual 66, 3) := by decide +kernel
theorem dL_law_600 : decode cL_law 600 = .ok (.aload_n 2, 1) := by decide +kernel
theorem dL_law_601 : decode cL_law 601 = .ok (.aload_n 0, 1) := by decide +kernel
theorem dL_law_602 : decode cL_law 602 = .ok (.iload 4, 2) := by decide +kernel
theorem dL_law_604 : decode cL_law 604 = .ok (.iconst 1, 1) := by decide +kernel
theorem dL_law_605 : decode cL_law 605 = .ok (.iadd, 1) := by decide +kernel
theorem dL_law_606 : decode cL_law 606 = .ok (.iaload, 1) := by decide +kernel
theorem dL_law_607 : decode cL_law 607 = .ok (.aload_n 0, 1) := by decide +kernel
theorem dL_law_608 : decode cL_law 608 = .ok (.iload 4, 2) := by decide +kernel
theorem dL_law_610 : decode cL_law 610 = .ok (.iconst 2, 1) := by decide +kernel
theorem dL_law_611 : decode cL_law 611 = .ok (.iadd, 1) := by decide +kernel
theorem dL_law_612 : decode cL_law 612 = .ok (.iaload, 1) := by decide +kernel
theorem dL_law_613 : decode cL_law 613 = .ok (.invokevirtual 69, 3) := by decide +kernel
theorem dL_law_616 : decode cL_law 616 = .ok (.if_icmp .eq 1089, 3) := by decide +kernel
theorem dL_law_619 : decode cL_law 619 = .ok (.iconst 0, 1) := by decide +kernel
theorem dL_law_620 : decode cL_law 620 = .ok (.ireturn, 1) := by decide +kernel
theorem dL_law_621 : decode cL_law 621 = .ok (.aload_n 1, 1) := by decide +kernel
theorem dL_law_622 : decode cL_law 622 = .ok (.aload_n 0, 1) := by decide +kernel
theorem dL_law_623 : decode cL_law 623 = .ok (.iload 4, 2) := by decide +kernel
theorem dL_law_625 : decode cL_law 625 = .ok (.iconst 1, 1) := by decide +kernel
theorem dL_law_626 : decode cL_law 626 = .ok (.iadd, 1) := by decide +kernel
theorem dL_law_627 : decode cL_law 627 = .ok (.iaload, 1) := by decide +kernel
theorem dL_law_628 : decode cL_law 628 = .ok (.invokevirtual 70, 3) := by decide +kernel
theorem dL_law_631 : decode cL_law 631 = .ok (.aload_n 2, 1) := by decide +kernel
theorem dL_law_632 : decode cL_law 632 = .ok (.aload_n 0, 1) := by decide +kernel
theorem dL_law_633 : decode cL_law 633 = .ok (.iload 4, 2) := by decide +kernel
theorem dL_law_635 : decode cL_law 635 = .ok (.iconst 1, 1) := by decide +kernel
theorem dL_law_636 : decode cL_law 636 = .ok (.iadd, 1) := by decide +kernel
theorem dL_law_637 : decode cL_law 637 = .ok (.iaload, 1) := by decide +kernel
theorem dL_law_638 : decode cL_law 638 = .ok (.invokevirtual 73, 3) := by decide +kernel
theorem dL_law_641 : decode cL_law 641 = .ok (.if_icmp .eq 1064, 3) := by decide +kernel
theorem dL_law_644 : decode cL_law 644 = .ok (.iconst 0, 1) := by decide +kernel
theorem dL_law_645 : decode cL_law 645 = .ok (.ireturn, 1) := by decide +kernel
theorem dL_law_646 : decode cL_law 646 = .ok (.aload_n 1, 1) := by decide +kernel
theorem dL_law_647 : decode cL_law 647 = .ok (.invokevirtual 74, 3) := by decide +kernel
theorem dL_law_650 : decode cL_law 650 = .ok (.aload_n 2, 1) := by decide +kernel
theorem dL_law_651 : decode cL_law 651 = .ok (.invokevirtual 77, 3) := by decide +kernel
theorem dL_law_654 : decode cL_law 654 = .ok (.if_icmp .eq 1051, 3) := by decide +kernel
theorem dL_law_657 : decode cL_law 657 = .ok (.iconst 0, 1) := by decide +kernel
theorem dL_law_658 : decode cL_law 658 = .ok (.ireturn, 1) := by decide +kernel
theorem dL_law_659 : decode cL_law 659 = .ok (.aload_n 1, 1) := by decide +kernel
theorem dL_law_660 : decode cL_law 660 = .ok (.aload_n 0, 1) := by decide +kernel
theorem dL_law_661 : decode cL_law 661 = .ok (.iload 4, 2) := by decide +kernel
theorem dL_law_663 : decode cL_law 663 = .ok (.iconst 1, 1) := by decide +kernel
theorem dL_law_664 : decode cL_law 664 = .ok (.iadd, 1) := by decide +kernel
theorem dL_law_665 : decode cL_law 665 = .ok (.iaload, 1) := by decide +kernel
theorem dL_law_666 : decode cL_law 666 = .ok (.aload_n 0, 1) := by decide +kernel
theorem dL_law_667 : decode cL_law 667 = .ok (.iload 4, 2) := by decide +kernel
theorem dL_law_669 : decode cL_law 669 = .ok (.iconst 2, 1) := by decide +kernel
theorem dL_law_670 : decode cL_law 670 = .ok (.iadd, 1) := by decide +kernel
theorem dL_law_671 : decode cL_law 671 = .ok (.iaload, 1) := by decide +kernel
theorem dL_law_672 : decode cL_law 672 = .ok (.invokevirtual 78, 3) := by decide +kernel
theorem dL_law_675 : decode cL_law 675 = .ok (.aload_n 2, 1) := by decide +kernel
theorem dL_law_676 : decode cL_law 676 = .ok (.aload_n 0, 1) := by decide +kernel
theorem dL_law_677 : decode cL_law 677 = .ok (.iload 4, 2) := by decide +kernel
theorem dL_law_679 : decode cL_law 679 = .ok (.iconst 1, 1) := by decide +kernel
theorem dL_law_680 : decode cL_law 680 = .ok (.iadd, 1) := by decide +kernel
theorem dL_law_681 : decode cL_law 681 = .ok (.iaload, 1) := by decide +kernel
theorem dL_law_682 : decode cL_law 682 = .ok (.aload_n 0, 1) := by decide +kernel
theorem dL_law_683 : decode cL_law 683 = .ok (.iload 4, 2) := by decide +kernel
theorem dL_law_685 : decode cL_law 685 = .ok (.iconst 2, 1) := by decide +kernel
theorem dL_law_686 : decode cL_law 686 = .ok (.iadd, 1) := by decide +kernel
theorem dL_law_687 : decode cL_law 687 = .ok (.iaload, 1) := by decide +kernel
theorem dL_law_688 : decode cL_law 688 = .ok (.invokevirtual 81, 3) := by decide +kernel
theorem dL_law_691 : decode cL_law 691 = .ok (.if_icmp .eq 1014, 3) := by decide +kernel
theorem dL_law_694 : decode cL_law 694 = .ok (.iconst 0, 1) := by decide +kernel
theorem dL_law_695 : decode cL_law 695 = .ok (.ireturn, 1) := by decide +kernel
theorem dL_law_696 : decode cL_law 696 = .ok (.aload_n 1, 1) := by decide +kernel
theorem dL_law_697 : decode cL_law 697 = .ok (.aload_n 0, 1) := by decide +kernel
theorem dL_law_698 : decode cL_law 698 = .ok (.iload 4, 2) := by decide +kernel
theorem dL_law_700 : decode cL_law 700 = .ok (.iconst 1, 1) := by decide +kernel
theorem dL_law_701 : decode cL_law 701 = .ok (.iadd, 1) := by decide +kernel
theorem dL_law_702 : decode cL_law 702 = .ok (.iaload, 1) := by decide +kernel
theorem dL_law_703 : decode cL_law 703 = .ok (.invokevirtual 82, 3) := by decide +kernel
theorem dL_law_706 : decode cL_law 706 = .ok (.aload_n 2, 1) := by decide +kernel
theorem dL_law_707 : decode cL_law 707 = .ok (.aload_n 0, 1) := by decide +kernel
theorem dL_law_708 : decode cL_law 708 = .ok (.iload 4, 2) := by decide +kernel
theorem dL_law_710 : decode cL_law 710 = .ok (.iconst 1, 1) := by decide +kernel
theorem dL_law_711 : decode cL_law 711 = .ok (.iadd, 1) := by decide +kernel
theorem dL_law_712 : decode cL_law 712 = .ok (.iaload, 1) := by decide +kernel
theorem dL_law_713 : decode cL_law 713 = .ok (.invokevirtual 85, 3) := by decide +kernel
theorem dL_law_716 : decode cL_law 716 = .ok (.if_icmp .eq 989, 3) := by decide +kernel
theorem dL_law_719 : decode cL_law 719 = .ok (.iconst 0, 1) := by decide +kernel
theorem dL_law_720 : decode cL_law 720 = .ok (.ireturn, 1) := by decide +kernel
theorem dL_law_721 : decode cL_law 721 = .ok (.aload_n 1, 1) := by decide +kernel
theorem dL_law_722 : decode cL_law 722 = .ok (.aload_n 0, 1) := by decide +kernel
theorem dL_law_723 : decode cL_law 723 = .ok (.iload 4, 2) := by decide +kernel
theorem dL_law_725 : decode cL_law 725 = .ok (.iconst 1, 1) := by decide +kernel
theorem dL_law_726 : decode cL_law 726 = .ok (.iadd, 1) := by decide +kernel
theorem dL_law_727 : decode cL_law 727 = .ok (.iaload, 1) := by decide +kernel
theorem dL_law_728 : decode cL_law 728 = .ok (.aload_n 0, 1) := by decide +kernel
theorem dL_law_729 : decode cL_law 729 = .ok (.iload 4, 2) := by decide +kernel
theorem dL_law_731 : decode cL_law 731 = .ok (.iconst 2, 1) := by decide +kernel
theorem dL_law_732 : decode cL_law 732 = .ok (.iadd, 1) := by decide +kernel
theorem dL_law_733 : decode cL_law 733 = .ok (.iaload, 1) := by decide +kernel
theorem dL_law_734 : decode cL_law 734 = .ok (.aload_n 0, 1) := by decide +kernel
theorem dL_law_735 : decode cL_law 735 = .ok (.iload 4, 2) := by decide +kernel
theorem dL_law_737 : decode cL_law 737 = .ok (.iconst 3, 1) := by decide +kernel
theorem dL_law_738 : decode cL_law 738 = .ok (.iadd, 1) := by decide +kernel
theorem dL_law_739 : decode cL_law 739 = .ok (.iaload, 1) := by decide +kernel
theorem dL_law_740 : decode cL_law 740 = .ok (.aload_n 0, 1) := by decide +kernel
theorem dL_law_741 : decode cL_law 741 = .ok (.iload 4, 2) := by decide +kernel
theorem dL_law_743 : decode cL_law 743 = .ok (.iconst 4, 1) := by decide +kernel
theorem dL_law_744 : decode cL_law 744 = .ok (.iadd, 1) := by decide +kernel
theorem dL_law_745 : decode cL_law 745 = .ok (.iaload, 1) := by decide +kernel
theorem dL_law_746 : decode cL_law 746 = .ok (.aload_n 0, 1) := by decide +kernel
theorem dL_law_747 : decode cL_law 747 = .ok (.iload 4, 2) := by decide +kernel
theorem dL_law_749 : decode cL_law 749 = .ok (.iconst 5, 1) := by decide +kernel
theorem dL_law_750 : decode cL_law 750 = .ok (.iadd, 1) := by decide +kernel
theorem dL_law_751 : decode cL_law 751 = .ok (.iaload, 1) := by decide +kernel
theorem dL_law_752 : decode cL_law 752 = .ok (.invokevirtual 86, 3) := by decide +kernel
theorem dL_law_755 : decode cL_law 755 = .ok (.aload_n 2, 1) := by decide +kernel
theorem dL_law_756 : decode cL_law 756 = .ok (.aload_n 0, 1) := by decide +kernel
theorem dL_law_757 : decode cL_law 757 = .ok (.iload 4, 2) := by decide +kernel
theorem dL_law_759 : decode cL_law 759 = .ok (.iconst 1, 1) := by decide +kernel
theorem dL_law_760 : decode cL_law 760 = .ok (.iadd, 1) := by decide +kernel
theorem dL_law_761 : decode cL_law 761 = .ok (.iaload, 1) := by decide +kernel
theorem dL_law_762 : decode cL_law 762 = .ok (.aload_n 0, 1) := by decide +kernel
theorem dL_law_763 : decode cL_law 763 = .ok (.iload 4, 2) := by decide +kernel
theorem dL_law_765 : decode cL_law 765 = .ok (.iconst 2, 1) := by decide +kernel
theorem dL_law_766 : decode cL_law 766 = .ok (.iadd, 1) := by decide +kernel
theorem dL_law_767 : decode cL_law 767 = .ok (.iaload, 1) := by decide +kernel
theorem dL_law_768 : decode cL_law 768 = .ok (.aload_n 0, 1) := by decide +kernel
theorem dL_law_769 : decode cL_law 769 = .ok (.iload 4, 2) := by decide +kernel
theorem dL_law_771 : decode cL_law 771 = .ok (.iconst 3, 1) := by decide +kernel
theorem dL_law_772 : decode cL_law 772 = .ok (.iadd, 1) := by decide +kernel
theorem dL_law_773 : decode cL_law 773 = .ok (.iaload, 1) := by decide +kernel
theorem dL_law_774 : decode cL_law 774 = .ok (.aload_n 0, 1) := by decide +kernel
theorem dL_law_775 : decode cL_law 775 = .ok (.iload 4, 2) := by decide +kernel
theorem dL_law_777 : decode cL_law 777 = .ok (.iconst 4, 1) := by decide +kernel
theorem dL_law_778 : decode cL_law 778 = .ok (.iadd, 1) := by decide +kernel
theorem dL_law_779 : decode cL_law 779 = .ok (.iaload, 1) := by decide +kernel
theorem dL_law_780 : decode cL_law 780 = .ok (.aload_n 0, 1) := by decide +kernel
theorem dL_law_781 : decode cL_law 781 = .ok (.iload 4, 2) := by decide +kernel
theorem dL_law_783 : decode cL_law 783 = .ok (.iconst 5, 1) := by decide +kernel
theorem dL_law_784 : decode cL_law 784 = .ok (.iadd, 1) := by decide +kernel
theorem dL_law_785 : decode cL_law 785 = .ok (.iaload, 1) := by decide +kernel
theorem dL_law_786 : decode cL_law 786 = .ok (.invokevirtual 90, 3) := by decide +kernel
theorem dL_law_789 : decode cL_law 789 = .ok (.lcmp, 1) := by decide +kernel
theorem dL_law_790 : decode cL_law 790 = .ok (.ifCond .eq 915, 3) := by decide +kernel
theorem dL_law_793 : decode cL_law 793 = .ok (.iconst 0, 1) := by decide +kernel
theorem dL_law_794 : decode cL_law 794 = .ok (.ireturn, 1) := by decide +kernel
theorem dL_law_795 : decode cL_law 795 = .ok (.aload_n 1, 1) := by decide +kernel
theorem dL_law_796 : decode cL_law 796 = .ok (.aload_n 0, 1) := by decide +kernel
theorem dL_law_797 : decode cL_law 797 = .ok (.iload 4, 2) := by decide +kernel
theorem dL_law_799 : decode cL_law 799 = .ok (.iconst 1, 1) := by decide +kernel
theorem dL_law_800 : decode cL_law 800 = .ok (.iadd, 1) := by decide +kernel
theorem dL_law_801 : decode cL_law 801 = .ok (.iaload, 1) := by decide +kernel
theorem dL_law_802 : decode cL_law 802 = .ok (.aload_n 0, 1) := by decide +kernel
theorem dL_law_803 : decode cL_law 803 = .ok (.iload 4, 2) := by decide +kernel
theorem dL_law_805 : decode cL_law 805 = .ok (.iconst 2, 1) := by decide +kernel
theorem dL_law_806 : decode cL_law 806 = .ok (.iadd, 1) := by decide +kernel
theorem dL_law_807 : decode cL_law 807 = .ok (.iaload, 1) := by decide +kernel
theorem dL_law_808 : decode cL_law 808 = .ok (.aload_n 0, 1) := by decide +kernel
theorem dL_law_809 : decode cL_law 809 = .ok (.iload 4, 2) := by decide +kernel
theorem dL_law_811 : decode cL_law 811 = .ok (.iconst 3, 1) := by decide +kernel
theorem dL_law_812 : decode cL_law 812 = .ok (.iadd, 1) := by decide +kernel
theorem dL_law_813 : decode cL_law 813 = .ok (.iaload, 1) := by decide +kernel
theorem dL_law_814 : decode cL_law 814 = .ok (.aload_n 0, 1) := by decide +kernel
theorem dL_law_815 : decode cL_law 815 = .ok (.iload 4, 2) := by decide +kernel
theorem dL_law_817 : decode cL_law 817 = .ok (.iconst 4, 1) := by decide +kernel
theorem dL_law_818 : decode cL_law 818 = .ok (.iadd, 1) := by decide +kernel
theorem dL_law_819 : decode cL_law 819 = .ok (.iaload, 1) := by decide +kernel
theorem dL_law_820 : decode cL_law 820 = .ok (.ifCond .eq 7, 3) := by decide +kernel
theorem dL_law_823 : decode cL_law 823 = .ok (.iconst 1, 1) := by decide +kernel
theorem dL_law_824 : decode cL_law 824 = .ok (.goto 4, 3) := by decide +kernel
theorem dL_law_827 : decode cL_law 827 = .ok (.iconst 0, 1) := by decide +kernel
theorem dL_law_828 : decode cL_law 828 = .ok (.invokevirtual 91, 3) := by decide +kernel
theorem dL_law_831 : decode cL_law 831 = .ok (.aload_n 2, 1) := by decide +kernel
theorem dL_law_832 : decode cL_law 832 = .ok (.aload_n 0, 1) := by decide +kernel
theorem dL_law_833 : decode cL_law 833 = .ok (.iload 4, 2) := by decide +kernel
theorem dL_law_835 : decode cL_law 835 = .ok (.iconst 1, 1) := by decide +kernel
theorem dL_law_836 : decode cL_law 836 = .ok (.iadd, 1) := by decide +kernel
theorem dL_law_837 : decode cL_law 837 = .ok (.iaload, 1) := by decide +kernel
theorem dL_law_838 : decode cL_law 838 = .ok (.aload_n 0, 1) := by decide +kernel
theorem dL_law_839 : decode cL_law 839 = .ok (.iload 4, 2) := by decide +kernel
theorem dL_law_841 : decode cL_law 841 = .ok (.iconst 2, 1) := by decide +kernel
theorem dL_law_842 : decode cL_law 842 = .ok (.iadd, 1) := by decide +kernel
theorem dL_law_843 : decode cL_law 843 = .ok (.iaload, 1) := by decide +kernel
theorem dL_law_844 : decode cL_law 844 = .ok (.aload_n 0, 1) := by decide +kernel
theorem dL_law_845 : decode cL_law 845 = .ok (.iload 4, 2) := by decide +kernel
theorem dL_law_847 : decode cL_law 847 = .ok (.iconst 3, 1) := by decide +kernel
theorem dL_law_848 : decode cL_law 848 = .ok (.iadd, 1) := by decide +kernel
theorem dL_law_849 : decode cL_law 849 = .ok (.iaload, 1) := by decide +kernel
theorem dL_law_850 : decode cL_law 850 = .ok (.aload_n 0, 1) := by decide +kernel
theorem dL_law_851 : decode cL_law 851 = .ok (.iload 4, 2) := by decide +kernel
theorem dL_law_853 : decode cL_law 853 = .ok (.iconst 4, 1) := by decide +kernel
theorem dL_law_854 : decode cL_law 854 = .ok (.iadd, 1) := by decide +kernel
theorem dL_law_855 : decode cL_law 855 = .ok (.iaload, 1) := by decide +kernel
theorem dL_law_856 : decode cL_law 856 = .ok (.ifCond .eq 7, 3) := by decide +kernel
theorem dL_law_859 : decode cL_law 859 = .ok (.iconst 1, 1) := by decide +kernel
theorem dL_law_860 : decode cL_law 860 = .ok (.goto 4, 3) := by decide +kernel
theorem dL_law_863 : decode cL_law 863 = .ok (.iconst 0, 1) := by decide +kernel
theorem dL_law_864 : decode cL_law 864 = .ok (.invokevirtual 95, 3) := by decide +kernel
theorem dL_law_867 : decode cL_law 867 = .ok (.lcmp, 1) := by decide +kernel
theorem dL_law_868 : decode cL_law 868 = .ok (.ifCond .eq 837, 3) := by decide +kernel
theorem dL_law_871 : decode cL_law 871 = .ok (.iconst 0, 1) := by decide +kernel
theorem dL_law_872 : decode cL_law 872 = .ok (.ireturn, 1) := by decide +kernel
theorem dL_law_873 : decode cL_law 873 = .ok (.aload_n 1, 1) := by decide +kernel
theorem dL_law_874 : decode cL_law 874 = .ok (.aload_n 0, 1) := by decide +kernel
theorem dL_law_875 : decode cL_law 875 = .ok (.iload 4, 2) := by decide +kernel
theorem dL_law_877 : decode cL_law 877 = .ok (.iconst 1, 1) := by decide +kernel
theorem dL_law_878 : decode cL_law 878 = .ok (.iadd, 1) := by decide +kernel
theorem dL_law_879 : decode cL_law 879 = .ok (.iaload, 1) := by decide +kernel
theorem dL_law_880 : decode cL_law 880 = .ok (.aload_n 0, 1) := by decide +kernel
theorem dL_law_881 : decode cL_law 881 = .ok (.iload 4, 2) := by decide +kernel
theorem dL_law_883 : decode cL_law 883 = .ok (.iconst 2, 1) := by decide +kernel
theorem dL_law_884 : decode cL_law 884 = .ok (.iadd, 1) := by decide +kernel
theorem dL_law_885 : decode cL_law 885 = .ok (.iaload, 1) := by decide +kernel
theorem dL_law_886 : decode cL_law 886 = .ok (.aload_n 0, 1) := by decide +kernel
theorem dL_law_887 : decode cL_law 887 = .ok (.iload 4, 2) := by decide +kernel
theorem dL_law_889 : decode cL_law 889 = .ok (.iconst 3, 1) := by decide +kernel
theorem dL_law_890 : decode cL_law 890 = .ok (.iadd, 1) := by decide +kernel
theorem dL_law_891 : decode cL_law 891 = .ok (.iaload, 1) := by decide +kernel
theorem dL_law_892 : decode cL_law 892 = .ok (.aload_n 0, 1) := by decide +kernel
theorem dL_law_893 : decode cL_law 893 = .ok (.iload 4, 2) := by decide +kernel
theorem dL_law_895 : decode cL_law 895 = .ok (.iconst 4, 1) := by decide +kernel
theorem dL_law_896 : decode cL_law 896 = .ok (.iadd, 1) := by decide +kernel
theorem dL_law_897 : decode cL_law 897 = .ok (.iaload, 1) := by decide +kernel
theorem dL_law_898 : decode cL_law 898 = .ok (.aload_n 0, 1) := by decide +kernel
theorem dL_law_899 : decode cL_law 899 = .ok (.iload 4, 2) := by decide +kernel
theorem dL_law_901 : decode cL_law 901 = .ok (.iconst 5, 1) := by decide +kernel
theorem dL_law_902 : decode cL_law 902 = .ok (.iadd, 1) := by decide +kernel
theorem dL_law_903 : decode cL_law 903 = .ok (.iaload, 1) := by decide +kernel
theorem dL_law_904 : decode cL_law 904 = .ok (.invokevirtual 96, 3) := by decide +kernel
theorem dL_law_907 : decode cL_law 907 = .ok (.aload_n 2, 1) := by decide +kernel
theorem dL_law_908 : decode cL_law 908 = .ok (.aload_n 0, 1) := by decide +kernel
theorem dL_law_909 : decode cL_law 909 = .ok (.iload 4, 2) := by decide +kernel
theorem dL_law_911 : decode cL_law 911 = .ok (.iconst 1, 1) := by decide +kernel
theorem dL_law_912 : decode cL_law 912 = .ok (.iadd, 1) := by decide +kernel
theorem dL_law_913 : decode cL_law 913 = .ok (.iaload, 1) := by decide +kernel
theorem dL_law_914 : decode cL_law 914 = .ok (.aload_n 0, 1) := by decide +kernel
theorem dL_law_915 : decode cL_law 915 = .ok (.iload 4, 2) := by decide +kernel
theorem dL_law_917 : decode cL_law 917 = .ok (.iconst 2, 1) := by decide +kernel
theorem dL_law_918 : decode cL_law 918 = .ok (.iadd, 1) := by decide +kernel
theorem dL_law_919 : decode cL_law 919 = .ok (.iaload, 1) := by decide +kernel
theorem dL_law_920 : decode cL_law 920 = .ok (.aload_n 0, 1) := by decide +kernel
theorem dL_law_921 : decode cL_law 921 = .ok (.iload 4, 2) := by decide +kernel
theorem dL_law_923 : decode cL_law 923 = .ok (.iconst 3, 1) := by decide +kernel
theorem dL_law_924 : decode cL_law 924 = .ok (.iadd, 1) := by decide +kernel
theorem dL_law_925 : decode cL_law 925 = .ok (.iaload, 1) := by decide +kernel
theorem dL_law_926 : decode cL_law 926 = .ok (.aload_n 0, 1) := by decide +kernel
theorem dL_law_927 : decode cL_law 927 = .ok (.iload 4, 2) := by decide +kernel
theorem dL_law_929 : decode cL_law 929 = .ok (.iconst 4, 1) := by decide +kernel
theorem dL_law_930 : decode cL_law 930 = .ok (.iadd, 1) := by decide +kernel
theorem dL_law_931 : decode cL_law 931 = .ok (.iaload, 1) := by decide +kernel
theorem dL_law_932 : decode cL_law 932 = .ok (.aload_n 0, 1) := by decide +kernel
theorem dL_law_933 : decode cL_law 933 = .ok (.iload 4, 2) := by decide +kernel
theorem dL_law_935 : decode cL_law 935 = .ok (.iconst 5, 1) := by decide +kernel
theorem dL_law_936 : decode cL_law 936 = .ok (.iadd, 1) := by decide +kernel
theorem dL_law_937 : decode cL_law 937 = .ok (.iaload, 1) := by decide +kernel
theorem dL_law_938 : decode cL_law 938 = .ok (.invokevirtual 99, 3) := by decide +kernel
theorem dL_law_941 : decode cL_law 941 = .ok (.lcmp, 1) := by decide +kernel
theorem dL_law_942 : decode cL_law 942 = .ok (.ifCond .eq 763, 3) := by decide +kernel
theorem dL_law_945 : decode cL_law 945 = .ok (.iconst 0, 1) := by decide +kernel
theorem dL_law_946 : decode cL_law 946 = .ok (.ireturn, 1) := by decide +kernel
theorem dL_law_947 : decode cL_law 947 = .ok (.aload_n 1, 1) := by decide +kernel
theorem dL_law_948 : decode cL_law 948 = .ok (.aload_n 0, 1) := by decide +kernel
theorem dL_law_949 : decode cL_law 949 = .ok (.iload 4, 2) := by decide +kernel
theorem dL_law_951 : decode cL_law 951 = .ok (.iconst 1, 1) := by decide +kernel
theorem dL_law_952 : decode cL_law 952 = .ok (.iadd, 1) := by decide +kernel
theorem dL_law_953 : decode cL_law 953 = .ok (.iaload, 1) := by decide +kernel
theorem dL_law_954 : decode cL_law 954 = .ok (.aload_n 0, 1) := by decide +kernel
theorem dL_law_955 : decode cL_law 955 = .ok (.iload 4, 2) := by decide +kernel
theorem dL_law_957 : decode cL_law 957 = .ok (.iconst 2, 1) := by decide +kernel
theorem dL_law_958 : decode cL_law 958 = .ok (.iadd, 1) := by decide +kernel
theorem dL_law_959 : decode cL_law 959 = .ok (.iaload, 1) := by decide +kernel
theorem dL_law_960 : decode cL_law 960 = .ok (.aload_n 0, 1) := by decide +kernel
theorem dL_law_961 : decode cL_law 961 = .ok (.iload 4, 2) := by decide +kernel
theorem dL_law_963 : decode cL_law 963 = .ok (.iconst 3, 1) := by decide +kernel
theorem dL_law_964 : decode cL_law 964 = .ok (.iadd, 1) := by decide +kernel
theorem dL_law_965 : decode cL_law 965 = .ok (.iaload, 1) := by decide +kernel
theorem dL_law_966 : decode cL_law 966 = .ok (.invokevirtual 100, 3) := by decide +kernel
theorem dL_law_969 : decode cL_law 969 = .ok (.aload_n 2, 1) := by decide +kernel
theorem dL_law_970 : decode cL_law 970 = .ok (.aload_n 0, 1) := by decide +kernel
theorem dL_law_971 : decode cL_law 971 = .ok (.iload 4, 2) := by decide +kernel
theorem dL_law_973 : decode cL_law 973 = .ok (.iconst 1, 1) := by decide +kernel
theorem dL_law_974 : decode cL_law 974 = .ok (.iadd, 1) := by decide +kernel
theorem dL_law_975 : decode cL_law 975 = .ok (.iaload, 1) := by decide +kernel
theorem dL_law_976 : decode cL_law 976 = .ok (.aload_n 0, 1) := by decide +kernel
theorem dL_law_977 : decode cL_law 977 = .ok (.iload 4, 2) := by decide +kernel
theorem dL_law_979 : decode cL_law 979 = .ok (.iconst 2, 1) := by decide +kernel
theorem dL_law_980 : decode cL_law 980 = .ok (.iadd, 1) := by decide +kernel
theorem dL_law_981 : decode cL_law 981 = .ok (.iaload, 1) := by decide +kernel
theorem dL_law_982 : decode cL_law 982 = .ok (.aload_n 0, 1) := by decide +kernel
theorem dL_law_983 : decode cL_law 983 = .ok (.iload 4, 2) := by decide +kernel
theorem dL_law_985 : decode cL_law 985 = .ok (.iconst 3, 1) := by decide +kernel
theorem dL_law_986 : decode cL_law 986 = .ok (.iadd, 1) := by decide +kernel
theorem dL_law_987 : decode cL_law 987 = .ok (.iaload, 1) := by decide +kernel
theorem dL_law_988 : decode cL_law 988 = .ok (.invokevirtual 104, 3) := by decide +kernel
theorem dL_law_991 : decode cL_law 991 = .ok (.if_icmp .eq 714, 3) := by decide +kernel
theorem dL_law_994 : decode cL_law 994 = .ok (.iconst 0, 1) := by decide +kernel
theorem dL_law_995 : decode cL_law 995 = .ok (.ireturn, 1) := by decide +kernel
theorem dL_law_996 : decode cL_law 996 = .ok (.aload_n 1, 1) := by decide +kernel
theorem dL_law_997 : decode cL_law 997 = .ok (.aload_n 0, 1) := by decide +kernel
theorem dL_law_998 : decode cL_law 998 = .ok (.iload 4, 2) := by decide +kernel
theorem dL_law_1000 : decode cL_law 1000 = .ok (.iconst 1, 1) := by decide +kernel
theorem dL_law_1001 : decode cL_law 1001 = .ok (.iadd, 1) := by decide +kernel
theorem dL_law_1002 : decode cL_law 1002 = .ok (.iaload, 1) := by decide +kernel
theorem dL_law_1003 : decode cL_law 1003 = .ok (.aload_n 0, 1) := by decide +kernel
theorem dL_law_1004 : decode cL_law 1004 = .ok (.iload 4, 2) := by decide +kernel
theorem dL_law_1006 : decode cL_law 1006 = .ok (.iconst 2, 1) := by decide +kernel
theorem dL_law_1007 : decode cL_law 1007 = .ok (.iadd, 1) := by decide +kernel
theorem dL_law_1008 : decode cL_law 1008 = .ok (.iaload, 1) := by decide +kernel
theorem dL_law_1009 : decode cL_law 1009 = .ok (.aload_n 0, 1) := by decide +kernel
theorem dL_law_1010 : decode cL_law 1010 = .ok (.iload 4, 2) := by decide +kernel
theorem dL_law_1012 : decode cL_law 1012 = .ok (.iconst 3, 1) := by decide +kernel
theorem dL_law_1013 : decode cL_law 1013 = .ok (.iadd, 1) := by decide +kernel
theorem dL_law_1014 : decode cL_law 1014 = .ok (.iaload, 1) := by decide +kernel
theorem dL_law_1015 : decode cL_law 1015 = .ok (.aload_n 0, 1) := by decide +kernel
theorem dL_law_1016 : decode cL_law 1016 = .ok (.iload 4, 2) := by decide +kernel
theorem dL_law_1018 : decode cL_law 1018 = .ok (.iconst 4, 1) := by decide +kernel
theorem dL_law_1019 : decode cL_law 1019 = .ok (.iadd, 1) := by decide +kernel
theorem dL_law_1020 : decode cL_law 1020 = .ok (.iaload, 1) := by decide +kernel
theorem dL_law_1021 : decode cL_law 1021 = .ok (.ifCond .eq 7, 3) := by decide +kernel
theorem dL_law_1024 : decode cL_law 1024 = .ok (.iconst 1, 1) := by decide +kernel
theorem dL_law_1025 : decode cL_law 1025 = .ok (.goto 4, 3) := by decide +kernel
theorem dL_law_1028 : decode cL_law 1028 = .ok (.iconst 0, 1) := by decide +kernel
theorem dL_law_1029 : decode cL_law 1029 = .ok (.invokevirtual 105, 3) := by decide +kernel
theorem dL_law_1032 : decode cL_law 1032 = .ok (.aload_n 2, 1) := by decide +kernel
theorem dL_law_1033 : decode cL_law 1033 = .ok (.aload_n 0, 1) := by decide +kernel
theorem dL_law_1034 : decode cL_law 1034 = .ok (.iload 4, 2) := by decide +kernel
theorem dL_law_1036 : decode cL_law 1036 = .ok (.iconst 1, 1) := by decide +kernel
theorem dL_law_1037 : decode cL_law 1037 = .ok (.iadd, 1) := by decide +kernel
theorem dL_law_1038 : decode cL_law 1038 = .ok (.iaload, 1) := by decide +kernel
theorem dL_law_1039 : decode cL_law 1039 = .ok (.aload_n 0, 1) := by decide +kernel
theorem dL_law_1040 : decode cL_law 1040 = .ok (.iload 4, 2) := by decide +kernel
theorem dL_law_1042 : decode cL_law 1042 = .ok (.iconst 2, 1) := by decide +kernel
theorem dL_law_1043 : decode cL_law 1043 = .ok (.iadd, 1) := by decide +kernel
theorem dL_law_1044 : decode cL_law 1044 = .ok (.iaload, 1) := by decide +kernel
theorem dL_law_1045 : decode cL_law 1045 = .ok (.aload_n 0, 1) := by decide +kernel
theorem dL_law_1046 : decode cL_law 1046 = .ok (.iload 4, 2) := by decide +kernel
theorem dL_law_1048 : decode cL_law 1048 = .ok (.iconst 3, 1) := by decide +kernel
theorem dL_law_1049 : decode cL_law 1049 = .ok (.iadd, 1) := by decide +kernel
theorem dL_law_1050 : decode cL_law 1050 = .ok (.iaload, 1) := by decide +kernel
theorem dL_law_1051 : decode cL_law 1051 = .ok (.aload_n 0, 1) := by decide +kernel
theorem dL_law_1052 : decode cL_law 1052 = .ok (.iload 4, 2) := by decide +kernel
theorem dL_law_1054 : decode cL_law 1054 = .ok (.iconst 4, 1) := by decide +kernel
theorem dL_law_1055 : decode cL_law 1055 = .ok (.iadd, 1) := by decide +kernel
theorem dL_law_1056 : decode cL_law 1056 = .ok (.iaload, 1) := by decide +kernel
theorem dL_law_1057 : decode cL_law 1057 = .ok (.ifCond .eq 7, 3) := by decide +kernel
theorem dL_law_1060 : decode cL_law 1060 = .ok (.iconst 1, 1) := by decide +kernel
theorem dL_law_1061 : decode cL_law 1061 = .ok (.goto 4, 3) := by decide +kernel
theorem dL_law_1064 : decode cL_law 1064 = .ok (.iconst 0, 1) := by decide +kernel
theorem dL_law_1065 : decode cL_law 1065 = .ok (.invokevirtual 108, 3) := by decide +kernel
theorem dL_law_1068 : decode cL_law 1068 = .ok (.lcmp, 1) := by decide +kernel
theorem dL_law_1069 : decode cL_law 1069 = .ok (.ifCond .eq 636, 3) := by decide +kernel
theorem dL_law_1072 : decode cL_law 1072 = .ok (.iconst 0, 1) := by decide +kernel
theorem dL_law_1073 : decode cL_law 1073 = .ok (.ireturn, 1) := by decide +kernel
theorem dL_law_1074 : decode cL_law 1074 = .ok (.aload_n 1, 1) := by decide +kernel
theorem dL_law_1075 : decode cL_law 1075 = .ok (.aload_n 0, 1) := by decide +kernel
theorem dL_law_1076 : decode cL_law 1076 = .ok (.iload 4, 2) := by decide +kernel
theorem dL_law_1078 : decode cL_law 1078 = .ok (.iconst 1, 1) := by decide +kernel
theorem dL_law_1079 : decode cL_law 1079 = .ok (.iadd, 1) := by decide +kernel
theorem dL_law_1080 : decode cL_law 1080 = .ok (.iaload, 1) := by decide +kernel
theorem dL_law_1081 : decode cL_law 1081 = .ok (.aload_n 0, 1) := by decide +kernel
theorem dL_law_1082 : decode cL_law 1082 = .ok (.iload 4, 2) := by decide +kernel
theorem dL_law_1084 : decode cL_law 1084 = .ok (.iconst 2, 1) := by decide +kernel
theorem dL_law_1085 : decode cL_law 1085 = .ok (.iadd, 1) := by decide +kernel
theorem dL_law_1086 : decode cL_law 1086 = .ok (.iaload, 1) := by decide +kernel
theorem dL_law_1087 : decode cL_law 1087 = .ok (.aload_n 0, 1) := by decide +kernel
theorem dL_law_1088 : decode cL_law 1088 = .ok (.iload 4, 2) := by decide +kernel
theorem dL_law_1090 : decode cL_law 1090 = .ok (.iconst 3, 1) := by decide +kernel
theorem dL_law_1091 : decode cL_law 1091 = .ok (.iadd, 1) := by decide +kernel
theorem dL_law_1092 : decode cL_law 1092 = .ok (.iaload, 1) := by decide +kernel
theorem dL_law_1093 : decode cL_law 1093 = .ok (.invokevirtual 109, 3) := by decide +kernel
theorem dL_law_1096 : decode cL_law 1096 = .ok (.aload_n 2, 1) := by decide +kernel
theorem dL_law_1097 : decode cL_law 1097 = .ok (.aload_n 0, 1) := by decide +kernel
theorem dL_law_1098 : decode cL_law 1098 = .ok (.iload 4, 2) := by decide +kernel
theorem dL_law_1100 : decode cL_law 1100 = .ok (.iconst 1, 1) := by decide +kernel
theorem dL_law_1101 : decode cL_law 1101 = .ok (.iadd, 1) := by decide +kernel
theorem dL_law_1102 : decode cL_law 1102 = .ok (.iaload, 1) := by decide +kernel
theorem dL_law_1103 : decode cL_law 1103 = .ok (.aload_n 0, 1) := by decide +kernel
theorem dL_law_1104 : decode cL_law 1104 = .ok (.iload 4, 2) := by decide +kernel
theorem dL_law_1106 : decode cL_law 1106 = .ok (.iconst 2, 1) := by decide +kernel
theorem dL_law_1107 : decode cL_law 1107 = .ok (.iadd, 1) := by decide +kernel
theorem dL_law_1108 : decode cL_law 1108 = .ok (.iaload, 1) := by decide +kernel
theorem dL_law_1109 : decode cL_law 1109 = .ok (.aload_n 0, 1) := by decide +kernel
theorem dL_law_1110 : decode cL_law 1110 = .ok (.iload 4, 2) := by decide +kernel
theorem dL_law_1112 : decode cL_law 1112 = .ok (.iconst 3, 1) := by decide +kernel
theorem dL_law_1113 : decode cL_law 1113 = .ok (.iadd, 1) := by decide +kernel
theorem dL_law_1114 : decode cL_law 1114 = .ok (.iaload, 1) := by decide +kernel
theorem dL_law_1115 : decode cL_law 1115 = .ok (.invokevirtual 112, 3) := by decide +kernel
theorem dL_law_1118 : decode cL_law 1118 = .ok (.if_icmp .eq 587, 3) := by decide +kernel
theorem dL_law_1121 : decode cL_law 1121 = .ok (.iconst 0, 1) := by decide +kernel
theorem dL_law_1122 : decode cL_law 1122 = .ok (.ireturn, 1) := by decide +kernel
theorem dL_law_1123 : decode cL_law 1123 = .ok (.aload_n 1, 1) := by decide +kernel
theorem dL_law_1124 : decode cL_law 1124 = .ok (.aload_n 0, 1) := by decide +kernel
theorem dL_law_1125 : decode cL_law 1125 = .ok (.iload 4, 2) := by decide +kernel
theorem dL_law_1127 : decode cL_law 1127 = .ok (.iconst 1, 1) := by decide +kernel
theorem dL_law_1128 : decode cL_law 1128 = .ok (.iadd, 1) := by decide +kernel
theorem dL_law_1129 : decode cL_law 1129 = .ok (.iaload, 1) := by decide +kernel
theorem dL_law_1130 : decode cL_law 1130 = .ok (.aload_n 0, 1) := by decide +kernel
theorem dL_law_1131 : decode cL_law 1131 = .ok (.iload 4, 2) := by decide +kernel
theorem dL_law_1133 : decode cL_law 1133 = .ok (.iconst 2, 1) := by decide +kernel
theorem dL_law_1134 : decode cL_law 1134 = .ok (.iadd, 1) := by decide +kernel
theorem dL_law_1135 : decode cL_law 1135 = .ok (.iaload, 1) := by decide +kernel
theorem dL_law_1136 : decode cL_law 1136 = .ok (.aload_n 0, 1) := by decide +kernel
theorem dL_law_1137 : decode cL_law 1137 = .ok (.iload 4, 2) := by decide +kernel
theorem dL_law_1139 : decode cL_law 1139 = .ok (.iconst 3, 1) := by decide +kernel
theorem dL_law_1140 : decode cL_law 1140 = .ok (.iadd, 1) := by decide +kernel
theorem dL_law_1141 : decode cL_law 1141 = .ok (.iaload, 1) := by decide +kernel
theorem dL_law_1142 : decode cL_law 1142 = .ok (.aload_n 0, 1) := by decide +kernel
theorem dL_law_1143 : decode cL_law 1143 = .ok (.iload 4, 2) := by decide +kernel
theorem dL_law_1145 : decode cL_law 1145 = .ok (.iconst 4, 1) := by decide +kernel
theorem dL_law_1146 : decode cL_law 1146 = .ok (.iadd, 1) := by decide +kernel
theorem dL_law_1147 : decode cL_law 1147 = .ok (.iaload, 1) := by decide +kernel
theorem dL_law_1148 : decode cL_law 1148 = .ok (.invokevirtual 113, 3) := by decide +kernel
theorem dL_law_1151 : decode cL_law 1151 = .ok (.aload_n 2, 1) := by decide +kernel
theorem dL_law_1152 : decode cL_law 1152 = .ok (.aload_n 0, 1) := by decide +kernel
theorem dL_law_1153 : decode cL_law 1153 = .ok (.iload 4, 2) := by decide +kernel
theorem dL_law_1155 : decode cL_law 1155 = .ok (.iconst 1, 1) := by decide +kernel
theorem dL_law_1156 : decode cL_law 1156 = .ok (.iadd, 1) := by decide +kernel
theorem dL_law_1157 : decode cL_law 1157 = .ok (.iaload, 1) := by decide +kernel
theorem dL_law_1158 : decode cL_law 1158 = .ok (.aload_n 0, 1) := by decide +kernel
theorem dL_law_1159 : decode cL_law 1159 = .ok (.iload 4, 2) := by decide +kernel
theorem dL_law_1161 : decode cL_law 1161 = .ok (.iconst 2, 1) := by decide +kernel
theorem dL_law_1162 : decode cL_law 1162 = .ok (.iadd, 1) := by decide +kernel
theorem dL_law_1163 : decode cL_law 1163 = .ok (.iaload, 1) := by decide +kernel
theorem dL_law_1164 : decode cL_law 1164 = .ok (.aload_n 0, 1) := by decide +kernel
theorem dL_law_1165 : decode cL_law 1165 = .ok (.iload 4, 2) := by decide +kernel
theorem dL_law_1167 : decode cL_law 1167 = .ok (.iconst 3, 1) := by decide +kernel
theorem dL_law_1168 : decode cL_law 1168 = .ok (.iadd, 1) := by decide +kernel
theorem dL_law_1169 : decode cL_law 1169 = .ok (.iaload, 1) := by decide +kernel
theorem dL_law_1170 : decode cL_law 1170 = .ok (.aload_n 0, 1) := by decide +kernel
theorem dL_law_1171 : decode cL_law 1171 = .ok (.iload 4, 2) := by decide +kernel
theorem dL_law_1173 : decode cL_law 1173 = .ok (.iconst 4, 1) := by decide +kernel
theorem dL_law_1174 : decode cL_law 1174 = .ok (.iadd, 1) := by decide +kernel
theorem dL_law_1175 : decode cL_law 1175 = .ok (.iaload, 1) := by decide +kernel
theorem dL_law_1176 : decode cL_law 1176 = .ok (.invokevirtual 116, 3) := by decide +kernel
theorem dL_law_1179 : decode cL_law 1179 = .ok (.if_icmp .eq 526, 3) := by decide +kernel
theorem dL_law_1182 : decode cL_law 1182 = .ok (.iconst 0, 1) := by decide +kernel
theorem dL_law_1183 : decode cL_law 1183 = .ok (.ireturn, 1) := by decide +kernel
theorem dL_law_1184 : decode cL_law 1184 = .ok (.aload_n 1, 1) := by decide +kernel
theorem dL_law_1185 : decode cL_law 1185 = .ok (.aload_n 0, 1) := by decide +kernel
theorem dL_law_1186 : decode cL_law 1186 = .ok (.iload 4, 2) := by decide +kernel
theorem dL_law_1188 : decode cL_law 1188 = .ok (.iconst 1, 1) := by decide +kernel
theorem dL_law_1189 : decode cL_law 1189 = .ok (.iadd, 1) := by decide +kernel
theorem dL_law_1190 : decode cL_law 1190 = .ok (.iaload, 1) := by decide +kernel
theorem dL_law_1191 : decode cL_law 1191 = .ok (.aload_n 0, 1) := by decide +kernel
theorem dL_law_1192 : decode cL_law 1192 = .ok (.iload 4, 2) := by decide +kernel
theorem dL_law_1194 : decode cL_law 1194 = .ok (.iconst 2, 1) := by decide +kernel
theorem dL_law_1195 : decode cL_law 1195 = .ok (.iadd, 1) := by decide +kernel
theorem dL_law_1196 : decode cL_law 1196 = .ok (.iaload, 1) := by decide +kernel
theorem dL_law_1197 : decode cL_law 1197 = .ok (.invokevirtual 117, 3) := by decide +kernel
theorem dL_law_1200 : decode cL_law 1200 = .ok (.aload_n 2, 1) := by decide +kernel
theorem dL_law_1201 : decode cL_law 1201 = .ok (.aload_n 0, 1) := by decide +kernel
theorem dL_law_1202 : decode cL_law 1202 = .ok (.iload 4, 2) := by decide +kernel
theorem dL_law_1204 : decode cL_law 1204 = .ok (.iconst 1, 1) := by decide +kernel
theorem dL_law_1205 : decode cL_law 1205 = .ok (.iadd, 1) := by decide +kernel
theorem dL_law_1206 : decode cL_law 1206 = .ok (.iaload, 1) := by decide +kernel
theorem dL_law_1207 : decode cL_law 1207 = .ok (.aload_n 0, 1) := by decide +kernel
theorem dL_law_1208 : decode cL_law 1208 = .ok (.iload 4, 2) := by decide +kernel
theorem dL_law_1210 : decode cL_law 1210 = .ok (.iconst 2, 1) := by decide +kernel
theorem dL_law_1211 : decode cL_law 1211 = .ok (.iadd, 1) := by decide +kernel
theorem dL_law_1212 : decode cL_law 1212 = .ok (.iaload, 1) := by decide +kernel
theorem dL_law_1213 : decode cL_law 1213 = .ok (.invokevirtual 120, 3) := by decide +kernel
theorem dL_law_1216 : decode cL_law 1216 = .ok (.if_icmp .eq 489, 3) := by decide +kernel
theorem dL_law_1219 : decode cL_law 1219 = .ok (.iconst 0, 1) := by decide +kernel
theorem dL_law_1220 : decode cL_law 1220 = .ok (.ireturn, 1) := by decide +kernel
theorem dL_law_1221 : decode cL_law 1221 = .ok (.aload_n 1, 1) := by decide +kernel
theorem dL_law_1222 : decode cL_law 1222 = .ok (.aload_n 0, 1) := by decide +kernel
theorem dL_law_1223 : decode cL_law 1223 = .ok (.iload 4, 2) := by decide +kernel
theorem dL_law_1225 : decode cL_law 1225 = .ok (.iconst 1, 1) := by decide +kernel
theorem dL_law_1226 : decode cL_law 1226 = .ok (.iadd, 1) := by decide +kernel
theorem dL_law_1227 : decode cL_law 1227 = .ok (.iaload, 1) := by decide +kernel
theorem dL_law_1228 : decode cL_law 1228 = .ok (.invokevirtual 121, 3) := by decide +kernel
theorem dL_law_1231 : decode cL_law 1231 = .ok (.aload_n 2, 1) := by decide +kernel
theorem dL_law_1232 : decode cL_law 1232 = .ok (.aload_n 0, 1) := by decide +kernel
theorem dL_law_1233 : decode cL_law 1233 = .ok (.iload 4, 2) := by decide +kernel
theorem dL_law_1235 : decode cL_law 1235 = .ok (.iconst 1, 1) := by decide +kernel
theorem dL_law_1236 : decode cL_law 1236 = .ok (.iadd, 1) := by decide +kernel
theorem dL_law_1237 : decode cL_law 1237 = .ok (.iaload, 1) := by decide +kernel
theorem dL_law_1238 : decode cL_law 1238 = .ok (.invokevirtual 124, 3) := by decide +kernel
theorem dL_law_1241 : decode cL_law 1241 = .ok (.if_icmp .eq 464, 3) := by decide +kernel
theorem dL_law_1244 : decode cL_law 1244 = .ok (.iconst 0, 1) := by decide +kernel
theorem dL_law_1245 : decode cL_law 1245 = .ok (.ireturn, 1) := by decide +kernel
theorem dL_law_1246 : decode cL_law 1246 = .ok (.aload_n 1, 1) := by decide +kernel
theorem dL_law_1247 : decode cL_law 1247 = .ok (.aload_n 0, 1) := by decide +kernel
theorem dL_law_1248 : decode cL_law 1248 = .ok (.iload 4, 2) := by decide +kernel
theorem dL_law_1250 : decode cL_law 1250 = .ok (.iconst 1, 1) := by decide +kernel
theorem dL_law_1251 : decode cL_law 1251 = .ok (.iadd, 1) := by decide +kernel
theorem dL_law_1252 : decode cL_law 1252 = .ok (.iaload, 1) := by decide +kernel
theorem dL_law_1253 : decode cL_law 1253 = .ok (.aload_n 0, 1) := by decide +kernel
theorem dL_law_1254 : decode cL_law 1254 = .ok (.iload 4, 2) := by decide +kernel
theorem dL_law_1256 : decode cL_law 1256 = .ok (.iconst 2, 1) := by decide +kernel
theorem dL_law_1257 : decode cL_law 1257 = .ok (.iadd, 1) := by decide +kernel
theorem dL_law_1258 : decode cL_law 1258 = .ok (.iaload, 1) := by decide +kernel
theorem dL_law_1259 : decode cL_law 1259 = .ok (.aload_n 0, 1) := by decide +kernel
theorem dL_law_1260 : decode cL_law 1260 = .ok (.iload 4, 2) := by decide +kernel
theorem dL_law_1262 : decode cL_law 1262 = .ok (.iconst 3, 1) := by decide +kernel
theorem dL_law_1263 : decode cL_law 1263 = .ok (.iadd, 1) := by decide +kernel
theorem dL_law_1264 : decode cL_law 1264 = .ok (.iaload, 1) := by decide +kernel
theorem dL_law_1265 : decode cL_law 1265 = .ok (.aload_n 0, 1) := by decide +kernel
theorem dL_law_1266 : decode cL_law 1266 = .ok (.iload 4, 2) := by decide +kernel
theorem dL_law_1268 : decode cL_law 1268 = .ok (.iconst 4, 1) := by decide +kernel
theorem dL_law_1269 : decode cL_law 1269 = .ok (.iadd, 1) := by decide +kernel
theorem dL_law_1270 : decode cL_law 1270 = .ok (.iaload, 1) := by decide +kernel
theorem dL_law_1271 : decode cL_law 1271 = .ok (.i2l, 1) := by decide +kernel
theorem dL_law_1272 : decode cL_law 1272 = .ok (.bipush 32, 2) := by decide +kernel
theorem dL_law_1274 : decode cL_law 1274 = .ok (.lshl, 1) := by decide +kernel
theorem dL_law_1275 : decode cL_law 1275 = .ok (.aload_n 0, 1) := by decide +kernel
theorem dL_law_1276 : decode cL_law 1276 = .ok (.iload 4, 2) := by decide +kernel
theorem dL_law_1278 : decode cL_law 1278 = .ok (.iconst 5, 1) := by decide +kernel
theorem dL_law_1279 : decode cL_law 1279 = .ok (.iadd, 1) := by decide +kernel
theorem dL_law_1280 : decode cL_law 1280 = .ok (.iaload, 1) := by decide +kernel
theorem dL_law_1281 : decode cL_law 1281 = .ok (.i2l, 1) := by decide +kernel
theorem dL_law_1282 : decode cL_law 1282 = .ok (.ldc2_w 125, 3) := by decide +kernel
theorem dL_law_1285 : decode cL_law 1285 = .ok (.land, 1) := by decide +kernel
theorem dL_law_1286 : decode cL_law 1286 = .ok (.lor, 1) := by decide +kernel
theorem dL_law_1287 : decode cL_law 1287 = .ok (.aload_n 0, 1) := by decide +kernel
theorem dL_law_1288 : decode cL_law 1288 = .ok (.iload 4, 2) := by decide +kernel
theorem dL_law_1290 : decode cL_law 1290 = .ok (.bipush 6, 2) := by decide +kernel
theorem dL_law_1292 : decode cL_law 1292 = .ok (.iadd, 1) := by decide +kernel
theorem dL_law_1293 : decode cL_law 1293 = .ok (.iaload, 1) := by decide +kernel
theorem dL_law_1294 : decode cL_law 1294 = .ok (.ifCond .eq 7, 3) := by decide +kernel
theorem dL_law_1297 : decode cL_law 1297 = .ok (.iconst 1, 1) := by decide +kernel
theorem dL_law_1298 : decode cL_law 1298 = .ok (.goto 4, 3) := by decide +kernel
theorem dL_law_1301 : decode cL_law 1301 = .ok (.iconst 0, 1) := by decide +kernel
theorem dL_law_1302 : decode cL_law 1302 = .ok (.invokevirtual 127, 3) := by decide +kernel
theorem dL_law_1305 : decode cL_law 1305 = .ok (.aload_n 2, 1) := by decide +kernel
theorem dL_law_1306 : decode cL_law 1306 = .ok (.aload_n 0, 1) := by decide +kernel
theorem dL_law_1307 : decode cL_law 1307 = .ok (.iload 4, 2) := by decide +kernel
theorem dL_law_1309 : decode cL_law 1309 = .ok (.iconst 1, 1) := by decide +kernel
theorem dL_law_1310 : decode cL_law 1310 = .ok (.iadd, 1) := by decide +kernel
theorem dL_law_1311 : decode cL_law 1311 = .ok (.iaload, 1) := by decide +kernel
theorem dL_law_1312 : decode cL_law 1312 = .ok (.aload_n 0, 1) := by decide +kernel
theorem dL_law_1313 : decode cL_law 1313 = .ok (.iload 4, 2) := by decide +kernel
theorem dL_law_1315 : decode cL_law 1315 = .ok (.iconst 2, 1) := by decide +kernel
theorem dL_law_1316 : decode cL_law 1316 = .ok (.iadd, 1) := by decide +kernel
theorem dL_law_1317 : decode cL_law 1317 = .ok (.iaload, 1) := by decide +kernel
theorem dL_law_1318 : decode cL_law 1318 = .ok (.aload_n 0, 1) := by decide +kernel
theorem dL_law_1319 : decode cL_law 1319 = .ok (.iload 4, 2) := by decide +kernel
theorem dL_law_1321 : decode cL_law 1321 = .ok (.iconst 3, 1) := by decide +kernel
theorem dL_law_1322 : decode cL_law 1322 = .ok (.iadd, 1) := by decide +kernel
theorem dL_law_1323 : decode cL_law 1323 = .ok (.iaload, 1) := by decide +kernel
theorem dL_law_1324 : decode cL_law 1324 = .ok (.aload_n 0, 1) := by decide +kernel
theorem dL_law_1325 : decode cL_law 1325 = .ok (.iload 4, 2) := by decide +kernel
theorem dL_law_1327 : decode cL_law 1327 = .ok (.iconst 4, 1) := by decide +kernel
theorem dL_law_1328 : decode cL_law 1328 = .ok (.iadd, 1) := by decide +kernel
theorem dL_law_1329 : decode cL_law 1329 = .ok (.iaload, 1) := by decide +kernel
theorem dL_law_1330 : decode cL_law 1330 = .ok (.i2l, 1) := by decide +kernel
theorem dL_law_1331 : decode cL_law 1331 = .ok (.bipush 32, 2) := by decide +kernel
theorem dL_law_1333 : decode cL_law 1333 = .ok (.lshl, 1) := by decide +kernel
theorem dL_law_1334 : decode cL_law 1334 = .ok (.aload_n 0, 1) := by decide +kernel
theorem dL_law_1335 : decode cL_law 1335 = .ok (.iload 4, 2) := by decide +kernel
theorem dL_law_1337 : decode cL_law 1337 = .ok (.iconst 5, 1) := by decide +kernel
theorem dL_law_1338 : decode cL_law 1338 = .ok (.iadd, 1) := by decide +kernel
theorem dL_law_1339 : decode cL_law 1339 = .ok (.iaload, 1) := by decide +kernel
theorem dL_law_1340 : decode cL_law 1340 = .ok (.i2l, 1) := by decide +kernel
theorem dL_law_1341 : decode cL_law 1341 = .ok (.ldc2_w 125, 3) := by decide +kernel
theorem dL_law_1344 : decode cL_law 1344 = .ok (.land, 1) := by decide +kernel
theorem dL_law_1345 : decode cL_law 1345 = .ok (.lor, 1) := by decide +kernel
theorem dL_law_1346 : decode cL_law 1346 = .ok (.aload_n 0, 1) := by decide +kernel
theorem dL_law_1347 : decode cL_law 1347 = .ok (.iload 4, 2) := by decide +kernel
theorem dL_law_1349 : decode cL_law 1349 = .ok (.bipush 6, 2) := by decide +kernel
theorem dL_law_1351 : decode cL_law 1351 = .ok (.iadd, 1) := by decide +kernel
theorem dL_law_1352 : decode cL_law 1352 = .ok (.iaload, 1) := by decide +kernel
theorem dL_law_1353 : decode cL_law 1353 = .ok (.ifCond .eq 7, 3) := by decide +kernel
theorem dL_law_1356 : decode cL_law 1356 = .ok (.iconst 1, 1) := by decide +kernel
theorem dL_law_1357 : decode cL_law 1357 = .ok (.goto 4, 3) := by decide +kernel
theorem dL_law_1360 : decode cL_law 1360 = .ok (.iconst 0, 1) := by decide +kernel
theorem dL_law_1361 : decode cL_law 1361 = .ok (.invokevirtual 131, 3) := by decide +kernel
theorem dL_law_1364 : decode cL_law 1364 = .ok (.if_icmp .eq 341, 3) := by decide +kernel
theorem dL_law_1367 : decode cL_law 1367 = .ok (.iconst 0, 1) := by decide +kernel
theorem dL_law_1368 : decode cL_law 1368 = .ok (.ireturn, 1) := by decide +kernel
theorem dL_law_1369 : decode cL_law 1369 = .ok (.aload_n 1, 1) := by decide +kernel
theorem dL_law_1370 : decode cL_law 1370 = .ok (.aload_n 0, 1) := by decide +kernel
theorem dL_law_1371 : decode cL_law 1371 = .ok (.iload 4, 2) := by decide +kernel
theorem dL_law_1373 : decode cL_law 1373 = .ok (.iconst 1, 1) := by decide +kernel
theorem dL_law_1374 : decode cL_law 1374 = .ok (.iadd, 1) := by decide +kernel
theorem dL_law_1375 : decode cL_law 1375 = .ok (.iaload, 1) := by decide +kernel
theorem dL_law_1376 : decode cL_law 1376 = .ok (.aload_n 0, 1) := by decide +kernel
theorem dL_law_1377 : decode cL_law 1377 = .ok (.iload 4, 2) := by decide +kernel
theorem dL_law_1379 : decode cL_law 1379 = .ok (.iconst 2, 1) := by decide +kernel
theorem dL_law_1380 : decode cL_law 1380 = .ok (.iadd, 1) := by decide +kernel
theorem dL_law_1381 : decode cL_law 1381 = .ok (.iaload, 1) := by decide +kernel
theorem dL_law_1382 : decode cL_law 1382 = .ok (.i2l, 1) := by decide +kernel
theorem dL_law_1383 : decode cL_law 1383 = .ok (.bipush 32, 2) := by decide +kernel
theorem dL_law_1385 : decode cL_law 1385 = .ok (.lshl, 1) := by decide +kernel
theorem dL_law_1386 : decode cL_law 1386 = .ok (.aload_n 0, 1) := by decide +kernel
theorem dL_law_1387 : decode cL_law 1387 = .ok (.iload 4, 2) := by decide +kernel
theorem dL_law_1389 : decode cL_law 1389 = .ok (.iconst 3, 1) := by decide +kernel
theorem dL_law_1390 : decode cL_law 1390 = .ok (.iadd, 1) := by decide +kernel
theorem dL_law_1391 : decode cL_law 1391 = .ok (.iaload, 1) := by decide +kernel
theorem dL_law_1392 : decode cL_law 1392 = .ok (.i2l, 1) := by decide +kernel
theorem dL_law_1393 : decode cL_law 1393 = .ok (.ldc2_w 125, 3) := by decide +kernel
theorem dL_law_1396 : decode cL_law 1396 = .ok (.land, 1) := by decide +kernel
theorem dL_law_1397 : decode cL_law 1397 = .ok (.lor, 1) := by decide +kernel
theorem dL_law_1398 : decode cL_law 1398 = .ok (.invokevirtual 132, 3) := by decide +kernel
theorem dL_law_1401 : decode cL_law 1401 = .ok (.aload_n 2, 1) := by decide +kernel
theorem dL_law_1402 : decode cL_law 1402 = .ok (.aload_n 0, 1) := by decide +kernel
theorem dL_law_1403 : decode cL_law 1403 = .ok (.iload 4, 2) := by decide +kernel
theorem dL_law_1405 : decode cL_law 1405 = .ok (.iconst 1, 1) := by decide +kernel
theorem dL_law_1406 : decode cL_law 1406 = .ok (.iadd, 1) := by decide +kernel
theorem dL_law_1407 : decode cL_law 1407 = .ok (.iaload, 1) := by decide +kernel
theorem dL_law_1408 : decode cL_law 1408 = .ok (.aload_n 0, 1) := by decide +kernel
theorem dL_law_1409 : decode cL_law 1409 = .ok (.iload 4, 2) := by decide +kernel
theorem dL_law_1411 : decode cL_law 1411 = .ok (.iconst 2, 1) := by decide +kernel
theorem dL_law_1412 : decode cL_law 1412 = .ok (.iadd, 1) := by decide +kernel
theorem dL_law_1413 : decode cL_law 1413 = .ok (.iaload, 1) := by decide +kernel
theorem dL_law_1414 : decode cL_law 1414 = .ok (.i2l, 1) := by decide +kernel
theorem dL_law_1415 : decode cL_law 1415 = .ok (.bipush 32, 2) := by decide +kernel
theorem dL_law_1417 : decode cL_law 1417 = .ok (.lshl, 1) := by decide +kernel
theorem dL_law_1418 : decode cL_law 1418 = .ok (.aload_n 0, 1) := by decide +kernel
theorem dL_law_1419 : decode cL_law 1419 = .ok (.iload 4, 2) := by decide +kernel
theorem dL_law_1421 : decode cL_law 1421 = .ok (.iconst 3, 1) := by decide +kernel
theorem dL_law_1422 : decode cL_law 1422 = .ok (.iadd, 1) := by decide +kernel
theorem dL_law_1423 : decode cL_law 1423 = .ok (.iaload, 1) := by decide +kernel
theorem dL_law_1424 : decode cL_law 1424 = .ok (.i2l, 1) := by decide +kernel
theorem dL_law_1425 : decode cL_law 1425 = .ok (.ldc2_w 125, 3) := by decide +kernel
theorem dL_law_1428 : decode cL_law 1428 = .ok (.land, 1) := by decide +kernel
theorem dL_law_1429 : decode cL_law 1429 = .ok (.lor, 1) := by decide +kernel
theorem dL_law_1430 : decode cL_law 1430 = .ok (.invokevirtual 136, 3) := by decide +kernel
theorem dL_law_1433 : decode cL_law 1433 = .ok (.if_icmp .eq 272, 3) := by decide +kernel
theorem dL_law_1436 : decode cL_law 1436 = .ok (.iconst 0, 1) := by decide +kernel
theorem dL_law_1437 : decode cL_law 1437 = .ok (.ireturn, 1) := by decide +kernel
theorem dL_law_1438 : decode cL_law 1438 = .ok (.aload_n 1, 1) := by decide +kernel
theorem dL_law_1439 : decode cL_law 1439 = .ok (.aload_n 0, 1) := by decide +kernel
theorem dL_law_1440 : decode cL_law 1440 = .ok (.iload 4, 2) := by decide +kernel
theorem dL_law_1442 : decode cL_law 1442 = .ok (.iconst 1, 1) := by decide +kernel
theorem dL_law_1443 : decode cL_law 1443 = .ok (.iadd, 1) := by decide +kernel
theorem dL_law_1444 : decode cL_law 1444 = .ok (.iaload, 1) := by decide +kernel
theorem dL_law_1445 : decode cL_law 1445 = .ok (.invokevirtual 137, 3) := by decide +kernel
theorem dL_law_1448 : decode cL_law 1448 = .ok (.aload_n 2, 1) := by decide +kernel
theorem dL_law_1449 : decode cL_law 1449 = .ok (.aload_n 0, 1) := by decide +kernel
theorem dL_law_1450 : decode cL_law 1450 = .ok (.iload 4, 2) := by decide +kernel
theorem dL_law_1452 : decode cL_law 1452 = .ok (.iconst 1, 1) := by decide +kernel
theorem dL_law_1453 : decode cL_law 1453 = .ok (.iadd, 1) := by decide +kernel
theorem dL_law_1454 : decode cL_law 1454 = .ok (.iaload, 1) := by decide +kernel
theorem dL_law_1455 : decode cL_law 1455 = .ok (.invokevirtual 140, 3) := by decide +kernel
theorem dL_law_1458 : decode cL_law 1458 = .ok (.if_icmp .eq 247, 3) := by decide +kernel
theorem dL_law_1461 : decode cL_law 1461 = .ok (.iconst 0, 1) := by decide +kernel
theorem dL_law_1462 : decode cL_law 1462 = .ok (.ireturn, 1) := by decide +kernel
theorem dL_law_1463 : decode cL_law 1463 = .ok (.aload_n 1, 1) := by decide +kernel
theorem dL_law_1464 : decode cL_law 1464 = .ok (.aload_n 0, 1) := by decide +kernel
theorem dL_law_1465 : decode cL_law 1465 = .ok (.iload 4, 2) := by decide +kernel
theorem dL_law_1467 : decode cL_law 1467 = .ok (.iconst 1, 1) := by decide +kernel
theorem dL_law_1468 : decode cL_law 1468 = .ok (.iadd, 1) := by decide +kernel
theorem dL_law_1469 : decode cL_law 1469 = .ok (.iaload, 1) := by decide +kernel
theorem dL_law_1470 : decode cL_law 1470 = .ok (.aload_n 0, 1) := by decide +kernel
theorem dL_law_1471 : decode cL_law 1471 = .ok (.iload 4, 2) := by decide +kernel
theorem dL_law_1473 : decode cL_law 1473 = .ok (.iconst 2, 1) := by decide +kernel
theorem dL_law_1474 : decode cL_law 1474 = .ok (.iadd, 1) := by decide +kernel
theorem dL_law_1475 : decode cL_law 1475 = .ok (.iaload, 1) := by decide +kernel
theorem dL_law_1476 : decode cL_law 1476 = .ok (.invokevirtual 141, 3) := by decide +kernel
theorem dL_law_1479 : decode cL_law 1479 = .ok (.aload_n 2, 1) := by decide +kernel
theorem dL_law_1480 : decode cL_law 1480 = .ok (.aload_n 0, 1) := by decide +kernel
theorem dL_law_1481 : decode cL_law 1481 = .ok (.iload 4, 2) := by decide +kernel
theorem dL_law_1483 : decode cL_law 1483 = .ok (.iconst 1, 1) := by decide +kernel
theorem dL_law_1484 : decode cL_law 1484 = .ok (.iadd, 1) := by decide +kernel
theorem dL_law_1485 : decode cL_law 1485 = .ok (.iaload, 1) := by decide +kernel
theorem dL_law_1486 : decode cL_law 1486 = .ok (.aload_n 0, 1) := by decide +kernel
theorem dL_law_1487 : decode cL_law 1487 = .ok (.iload 4, 2) := by decide +kernel
theorem dL_law_1489 : decode cL_law 1489 = .ok (.iconst 2, 1) := by decide +kernel
theorem dL_law_1490 : decode cL_law 1490 = .ok (.iadd, 1) := by decide +kernel
theorem dL_law_1491 : decode cL_law 1491 = .ok (.iaload, 1) := by decide +kernel
theorem dL_law_1492 : decode cL_law 1492 = .ok (.invokevirtual 144, 3) := by decide +kernel
theorem dL_law_1495 : decode cL_law 1495 = .ok (.if_icmp .eq 210, 3) := by decide +kernel
theorem dL_law_1498 : decode cL_law 1498 = .ok (.iconst 0, 1) := by decide +kernel
theorem dL_law_1499 : decode cL_law 1499 = .ok (.ireturn, 1) := by decide +kernel
theorem dL_law_1500 : decode cL_law 1500 = .ok (.aload_n 1, 1) := by decide +kernel
theorem dL_law_1501 : decode cL_law 1501 = .ok (.aload_n 0, 1) := by decide +kernel
theorem dL_law_1502 : decode cL_law 1502 = .ok (.iload 4, 2) := by decide +kernel
theorem dL_law_1504 : decode cL_law 1504 = .ok (.iconst 1, 1) := by decide +kernel
theorem dL_law_1505 : decode cL_law 1505 = .ok (.iadd, 1) := by decide +kernel
theorem dL_law_1506 : decode cL_law 1506 = .ok (.iaload, 1) := by decide +kernel
theorem dL_law_1507 : decode cL_law 1507 = .ok (.invokevirtual 145, 3) := by decide +kernel
theorem dL_law_1510 : decode cL_law 1510 = .ok (.aload_n 2, 1) := by decide +kernel
theorem dL_law_1511 : decode cL_law 1511 = .ok (.aload_n 0, 1) := by decide +kernel
theorem dL_law_1512 : decode cL_law 1512 = .ok (.iload 4, 2) := by decide +kernel
theorem dL_law_1514 : decode cL_law 1514 = .ok (.iconst 1, 1) := by decide +kernel
theorem dL_law_1515 : decode cL_law 1515 = .ok (.iadd, 1) := by decide +kernel
theorem dL_law_1516 : decode cL_law 1516 = .ok (.iaload, 1) := by decide +kernel
theorem dL_law_1517 : decode cL_law 1517 = .ok (.invokevirtual 148, 3) := by decide +kernel
theorem dL_law_1520 : decode cL_law 1520 = .ok (.if_icmp .eq 185, 3) := by decide +kernel
theorem dL_law_1523 : decode cL_law 1523 = .ok (.iconst 0, 1) := by decide +kernel
theorem dL_law_1524 : decode cL_law 1524 = .ok (.ireturn, 1) := by decide +kernel
theorem dL_law_1525 : decode cL_law 1525 = .ok (.aload_n 1, 1) := by decide +kernel
theorem dL_law_1526 : decode cL_law 1526 = .ok (.aload_n 0, 1) := by decide +kernel
theorem dL_law_1527 : decode cL_law 1527 = .ok (.iload 4, 2) := by decide +kernel
theorem dL_law_1529 : decode cL_law 1529 = .ok (.iconst 1, 1) := by decide +kernel
theorem dL_law_1530 : decode cL_law 1530 = .ok (.iadd, 1) := by decide +kernel
theorem dL_law_1531 : decode cL_law 1531 = .ok (.iaload, 1) := by decide +kernel
theorem dL_law_1532 : decode cL_law 1532 = .ok (.aload_n 0, 1) := by decide +kernel
theorem dL_law_1533 : decode cL_law 1533 = .ok (.iload 4, 2) := by decide +kernel
theorem dL_law_1535 : decode cL_law 1535 = .ok (.iconst 2, 1) := by decide +kernel
theorem dL_law_1536 : decode cL_law 1536 = .ok (.iadd, 1) := by decide +kernel
theorem dL_law_1537 : decode cL_law 1537 = .ok (.iaload, 1) := by decide +kernel
theorem dL_law_1538 : decode cL_law 1538 = .ok (.aload_n 0, 1) := by decide +kernel
theorem dL_law_1539 : decode cL_law 1539 = .ok (.iload 4, 2) := by decide +kernel
theorem dL_law_1541 : decode cL_law 1541 = .ok (.iconst 3, 1) := by decide +kernel
theorem dL_law_1542 : decode cL_law 1542 = .ok (.iadd, 1) := by decide +kernel
theorem dL_law_1543 : decode cL_law 1543 = .ok (.iaload, 1) := by decide +kernel
theorem dL_law_1544 : decode cL_law 1544 = .ok (.invokevirtual 149, 3) := by decide +kernel
theorem dL_law_1547 : decode cL_law 1547 = .ok (.aload_n 2, 1) := by decide +kernel
theorem dL_law_1548 : decode cL_law 1548 = .ok (.aload_n 0, 1) := by decide +kernel
theorem dL_law_1549 : decode cL_law 1549 = .ok (.iload 4, 2) := by decide +kernel
theorem dL_law_1551 : decode cL_law 1551 = .ok (.iconst 1, 1) := by decide +kernel
theorem dL_law_1552 : decode cL_law 1552 = .ok (.iadd, 1) := by decide +kernel
theorem dL_law_1553 : decode cL_law 1553 = .ok (.iaload, 1) := by decide +kernel
theorem dL_law_1554 : decode cL_law 1554 = .ok (.aload_n 0, 1) := by decide +kernel
theorem dL_law_1555 : decode cL_law 1555 = .ok (.iload 4, 2) := by decide +kernel
theorem dL_law_1557 : decode cL_law 1557 = .ok (.iconst 2, 1) := by decide +kernel
theorem dL_law_1558 : decode cL_law 1558 = .ok (.iadd, 1) := by decide +kernel
theorem dL_law_1559 : decode cL_law 1559 = .ok (.iaload, 1) := by decide +kernel
theorem dL_law_1560 : decode cL_law 1560 = .ok (.aload_n 0, 1) := by decide +kernel
theorem dL_law_1561 : decode cL_law 1561 = .ok (.iload 4, 2) := by decide +kernel
theorem dL_law_1563 : decode cL_law 1563 = .ok (.iconst 3, 1) := by decide +kernel
theorem dL_law_1564 : decode cL_law 1564 = .ok (.iadd, 1) := by decide +kernel
theorem dL_law_1565 : decode cL_law 1565 = .ok (.iaload, 1) := by decide +kernel
theorem dL_law_1566 : decode cL_law 1566 = .ok (.invokevirtual 153, 3) := by decide +kernel
theorem dL_law_1569 : decode cL_law 1569 = .ok (.lcmp, 1) := by decide +kernel
theorem dL_law_1570 : decode cL_law 1570 = .ok (.ifCond .eq 135, 3) := by decide +kernel
theorem dL_law_1573 : decode cL_law 1573 = .ok (.iconst 0, 1) := by decide +kernel
theorem dL_law_1574 : decode cL_law 1574 = .ok (.ireturn, 1) := by decide +kernel
theorem dL_law_1575 : decode cL_law 1575 = .ok (.aload_n 1, 1) := by decide +kernel
theorem dL_law_1576 : decode cL_law 1576 = .ok (.aload_n 0, 1) := by decide +kernel
theorem dL_law_1577 : decode cL_law 1577 = .ok (.iload 4, 2) := by decide +kernel
theorem dL_law_1579 : decode cL_law 1579 = .ok (.iconst 1, 1) := by decide +kernel
theorem dL_law_1580 : decode cL_law 1580 = .ok (.iadd, 1) := by decide +kernel
theorem dL_law_1581 : decode cL_law 1581 = .ok (.iaload, 1) := by decide +kernel
theorem dL_law_1582 : decode cL_law 1582 = .ok (.aload_n 0, 1) := by decide +kernel
theorem dL_law_1583 : decode cL_law 1583 = .ok (.iload 4, 2) := by decide +kernel
theorem dL_law_1585 : decode cL_law 1585 = .ok (.iconst 2, 1) := by decide +kernel
theorem dL_law_1586 : decode cL_law 1586 = .ok (.iadd, 1) := by decide +kernel
theorem dL_law_1587 : decode cL_law 1587 = .ok (.iaload, 1) := by decide +kernel
theorem dL_law_1588 : decode cL_law 1588 = .ok (.aload_n 0, 1) := by decide +kernel
theorem dL_law_1589 : decode cL_law 1589 = .ok (.iload 4, 2) := by decide +kernel
theorem dL_law_1591 : decode cL_law 1591 = .ok (.iconst 3, 1) := by decide +kernel
theorem dL_law_1592 : decode cL_law 1592 = .ok (.iadd, 1) := by decide +kernel
theorem dL_law_1593 : decode cL_law 1593 = .ok (.iaload, 1) := by decide +kernel
theorem dL_law_1594 : decode cL_law 1594 = .ok (.aload_n 0, 1) := by decide +kernel
theorem dL_law_1595 : decode cL_law 1595 = .ok (.iload 4, 2) := by decide +kernel
theorem dL_law_1597 : decode cL_law 1597 = .ok (.iconst 4, 1) := by decide +kernel
theorem dL_law_1598 : decode cL_law 1598 = .ok (.iadd, 1) := by decide +kernel
theorem dL_law_1599 : decode cL_law 1599 = .ok (.iaload, 1) := by decide +kernel
theorem dL_law_1600 : decode cL_law 1600 = .ok (.aload_n 3, 1) := by decide +kernel
theorem dL_law_1601 : decode cL_law 1601 = .ok (.invokestatic 154, 3) := by decide +kernel
theorem dL_law_1604 : decode cL_law 1604 = .ok (.istore 5, 2) := by decide +kernel
theorem dL_law_1606 : decode cL_law 1606 = .ok (.aload_n 2, 1) := by decide +kernel
theorem dL_law_1607 : decode cL_law 1607 = .ok (.aload_n 0, 1) := by decide +kernel
theorem dL_law_1608 : decode cL_law 1608 = .ok (.iload 4, 2) := by decide +kernel
theorem dL_law_1610 : decode cL_law 1610 = .ok (.iconst 1, 1) := by decide +kernel
theorem dL_law_1611 : decode cL_law 1611 = .ok (.iadd, 1) := by decide +kernel
theorem dL_law_1612 : decode cL_law 1612 = .ok (.iaload, 1) := by decide +kernel
theorem dL_law_1613 : decode cL_law 1613 = .ok (.aload_n 0, 1) := by decide +kernel
theorem dL_law_1614 : decode cL_law 1614 = .ok (.iload 4, 2) := by decide +kernel
theorem dL_law_1616 : decode cL_law 1616 = .ok (.iconst 2, 1) := by decide +kernel
theorem dL_law_1617 : decode cL_law 1617 = .ok (.iadd, 1) := by decide +kernel
theorem dL_law_1618 : decode cL_law 1618 = .ok (.iaload, 1) := by decide +kernel
theorem dL_law_1619 : decode cL_law 1619 = .ok (.aload_n 0, 1) := by decide +kernel
theorem dL_law_1620 : decode cL_law 1620 = .ok (.iload 4, 2) := by decide +kernel
theorem dL_law_1622 : decode cL_law 1622 = .ok (.iconst 3, 1) := by decide +kernel
theorem dL_law_1623 : decode cL_law 1623 = .ok (.iadd, 1) := by decide +kernel
theorem dL_law_1624 : decode cL_law 1624 = .ok (.iaload, 1) := by decide +kernel
theorem dL_law_1625 : decode cL_law 1625 = .ok (.aload_n 0, 1) := by decide +kernel
theorem dL_law_1626 : decode cL_law 1626 = .ok (.iload 4, 2) := by decide +kernel
theorem dL_law_1628 : decode cL_law 1628 = .ok (.iconst 4, 1) := by decide +kernel
theorem dL_law_1629 : decode cL_law 1629 = .ok (.iadd, 1) := by decide +kernel
theorem dL_law_1630 : decode cL_law 1630 = .ok (.iaload, 1) := by decide +kernel
theorem dL_law_1631 : decode cL_law 1631 = .ok (.invokevirtual 159, 3) := by decide +kernel
theorem dL_law_1634 : decode cL_law 1634 = .ok (.istore 6, 2) := by decide +kernel
theorem dL_law_1636 : decode cL_law 1636 = .ok (.aload_n 2, 1) := by decide +kernel
theorem dL_law_1637 : decode cL_law 1637 = .ok (.invokevirtual 160, 3) := by decide +kernel
theorem dL_law_1640 : decode cL_law 1640 = .ok (.iload 5, 2) := by decide +kernel
theorem dL_law_1642 : decode cL_law 1642 = .ok (.if_icmp .eq 5, 3) := by decide +kernel
theorem dL_law_1645 : decode cL_law 1645 = .ok (.iconst 0, 1) := by decide +kernel
theorem dL_law_1646 : decode cL_law 1646 = .ok (.ireturn, 1) := by decide +kernel
theorem dL_law_1647 : decode cL_law 1647 = .ok (.iload 5, 2) := by decide +kernel
theorem dL_law_1649 : decode cL_law 1649 = .ok (.ifCond .ne 15, 3) := by decide +kernel
theorem dL_law_1652 : decode cL_law 1652 = .ok (.aload_n 3, 1) := by decide +kernel
theorem dL_law_1653 : decode cL_law 1653 = .ok (.iconst 0, 1) := by decide +kernel
theorem dL_law_1654 : decode cL_law 1654 = .ok (.laload, 1) := by decide +kernel
theorem dL_law_1655 : decode cL_law 1655 = .ok (.iload 6, 2) := by decide +kernel
theorem dL_law_1657 : decode cL_law 1657 = .ok (.i2l, 1) := by decide +kernel
theorem dL_law_1658 : decode cL_law 1658 = .ok (.lcmp, 1) := by decide +kernel
theorem dL_law_1659 : decode cL_law 1659 = .ok (.ifCond .eq 5, 3) := by decide +kernel
theorem dL_law_1662 : decode cL_law 1662 = .ok (.iconst 0, 1) := by decide +kernel
theorem dL_law_1663 : decode cL_law 1663 = .ok (.ireturn, 1) := by decide +kernel
theorem dL_law_1664 : decode cL_law 1664 = .ok (.goto 41, 3) := by decide +kernel
theorem dL_law_1667 : decode cL_law 1667 = .ok (.aload_n 1, 1) := by decide +kernel
theorem dL_law_1668 : decode cL_law 1668 = .ok (.aload_n 0, 1) := by decide +kernel
theorem dL_law_1669 : decode cL_law 1669 = .ok (.iload 4, 2) := by decide +kernel
theorem dL_law_1671 : decode cL_law 1671 = .ok (.iconst 1, 1) := by decide +kernel
theorem dL_law_1672 : decode cL_law 1672 = .ok (.iadd, 1) := by decide +kernel
theorem dL_law_1673 : decode cL_law 1673 = .ok (.iaload, 1) := by decide +kernel
theorem dL_law_1674 : decode cL_law 1674 = .ok (.invokevirtual 163, 3) := by decide +kernel
theorem dL_law_1677 : decode cL_law 1677 = .ok (.aload_n 2, 1) := by decide +kernel
theorem dL_law_1678 : decode cL_law 1678 = .ok (.aload_n 0, 1) := by decide +kernel
theorem dL_law_1679 : decode cL_law 1679 = .ok (.iload 4, 2) := by decide +kernel
theorem dL_law_1681 : decode cL_law 1681 = .ok (.iconst 1, 1) := by decide +kernel
theorem dL_law_1682 : decode cL_law 1682 = .ok (.iadd, 1) := by decide +kernel
theorem dL_law_1683 : decode cL_law 1683 = .ok (.iaload, 1) := by decide +kernel
theorem dL_law_1684 : decode cL_law 1684 = .ok (.invokevirtual 166, 3) := by decide +kernel
theorem dL_law_1687 : decode cL_law 1687 = .ok (.if_icmp .eq 18, 3) := by decide +kernel
theorem dL_law_1690 : decode cL_law 1690 = .ok (.iconst 0, 1) := by decide +kernel
theorem dL_law_1691 : decode cL_law 1691 = .ok (.ireturn, 1) := by decide +kernel
theorem dL_law_1692 : decode cL_law 1692 = .ok (.aload_n 1, 1) := by decide +kernel
theorem dL_law_1693 : decode cL_law 1693 = .ok (.invokevirtual 167, 3) := by decide +kernel
theorem dL_law_1696 : decode cL_law 1696 = .ok (.aload_n 2, 1) := by decide +kernel
theorem dL_law_1697 : decode cL_law 1697 = .ok (.invokevirtual 170, 3) := by decide +kernel
theorem dL_law_1700 : decode cL_law 1700 = .ok (.if_icmp .eq 5, 3) := by decide +kernel
theorem dL_law_1703 : decode cL_law 1703 = .ok (.iconst 0, 1) := by decide +kernel
theorem dL_law_1704 : decode cL_law 1704 = .ok (.ireturn, 1) := by decide +kernel
theorem dL_law_1705 : decode cL_law 1705 = .ok (.iinc 4 7, 3) := by decide +kernel
theorem dL_law_1708 : decode cL_law 1708 = .ok (.goto (-1685), 3) := by decide +kernel
theorem dL_law_1711 : decode cL_law 1711 = .ok (.iconst 1, 1) := by decide +kernel
theorem dL_law_1712 : decode cL_law 1712 = .ok (.ireturn, 1) := by decide +kernel

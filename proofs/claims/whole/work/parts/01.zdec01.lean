theorem d_Deed_keepsImage_36 : decode prog_6_method_10_code 36 = .ok (.getfield 11, 3) := by decide +kernel
theorem d_Deed_keepsImage_39 : decode prog_6_method_10_code 39 = .ok (.iconst 5, 1) := by decide +kernel
theorem d_Deed_keepsImage_40 : decode prog_6_method_10_code 40 = .ok (.iaload, 1) := by decide +kernel
theorem d_Deed_keepsImage_41 : decode prog_6_method_10_code 41 = .ok (.ireturn, 1) := by decide +kernel
theorem d_Deed_laysBack_0 : decode prog_6_method_11_code 0 = .ok (.aload_n 0, 1) := by decide +kernel
theorem d_Deed_laysBack_1 : decode prog_6_method_11_code 1 = .ok (.getfield 20, 3) := by decide +kernel
theorem d_Deed_laysBack_4 : decode prog_6_method_11_code 4 = .ok (.iconst 0, 1) := by decide +kernel
theorem d_Deed_laysBack_5 : decode prog_6_method_11_code 5 = .ok (.aload_n 0, 1) := by decide +kernel
theorem d_Deed_laysBack_6 : decode prog_6_method_11_code 6 = .ok (.getfield 11, 3) := by decide +kernel
theorem d_Deed_laysBack_9 : decode prog_6_method_11_code 9 = .ok (.iconst 0, 1) := by decide +kernel
theorem d_Deed_laysBack_10 : decode prog_6_method_11_code 10 = .ok (.bipush 8, 2) := by decide +kernel
theorem d_Deed_laysBack_12 : decode prog_6_method_11_code 12 = .ok (.invokestatic 75, 3) := by decide +kernel
theorem d_Deed_laysBack_15 : decode prog_6_method_11_code 15 = .ok (.aload_n 0, 1) := by decide +kernel
theorem d_Deed_laysBack_16 : decode prog_6_method_11_code 16 = .ok (.getfield 23, 3) := by decide +kernel
theorem d_Deed_laysBack_19 : decode prog_6_method_11_code 19 = .ok (.iconst 0, 1) := by decide +kernel
theorem d_Deed_laysBack_20 : decode prog_6_method_11_code 20 = .ok (.aload_n 0, 1) := by decide +kernel
theorem d_Deed_laysBack_21 : decode prog_6_method_11_code 21 = .ok (.getfield 17, 3) := by decide +kernel
theorem d_Deed_laysBack_24 : decode prog_6_method_11_code 24 = .ok (.iconst 0, 1) := by decide +kernel
theorem d_Deed_laysBack_25 : decode prog_6_method_11_code 25 = .ok (.bipush 12, 2) := by decide +kernel
theorem d_Deed_laysBack_27 : decode prog_6_method_11_code 27 = .ok (.invokestatic 75, 3) := by decide +kernel
theorem d_Deed_laysBack_30 : decode prog_6_method_11_code 30 = .ok (.aload_n 0, 1) := by decide +kernel
theorem d_Deed_laysBack_31 : decode prog_6_method_11_code 31 = .ok (.getfield 11, 3) := by decide +kernel
theorem d_Deed_laysBack_34 : decode prog_6_method_11_code 34 = .ok (.iconst 5, 1) := by decide +kernel
theorem d_Deed_laysBack_35 : decode prog_6_method_11_code 35 = .ok (.iaload, 1) := by decide +kernel
theorem d_Deed_laysBack_36 : decode prog_6_method_11_code 36 = .ok (.ireturn, 1) := by decide +kernel
theorem d_Law_init_0 : decode prog_7_method_1_code 0 = .ok (.aload_n 0, 1) := by decide +kernel
theorem d_Law_init_1 : decode prog_7_method_1_code 1 = .ok (.invokespecial 1, 3) := by decide +kernel
theorem d_Law_init_4 : decode prog_7_method_1_code 4 = .ok (.aload_n 0, 1) := by decide +kernel
theorem d_Law_init_5 : decode prog_7_method_1_code 5 = .ok (.bipush 121, 2) := by decide +kernel
theorem d_Law_init_7 : decode prog_7_method_1_code 7 = .ok (.newarray .int, 2) := by decide +kernel
theorem d_Law_init_9 : decode prog_7_method_1_code 9 = .ok (.putfield 9, 3) := by decide +kernel
theorem d_Law_init_12 : decode prog_7_method_1_code 12 = .ok (.aload_n 0, 1) := by decide +kernel
theorem d_Law_init_13 : decode prog_7_method_1_code 13 = .ok (.bipush 121, 2) := by decide +kernel
theorem d_Law_init_15 : decode prog_7_method_1_code 15 = .ok (.newarray .int, 2) := by decide +kernel
theorem d_Law_init_17 : decode prog_7_method_1_code 17 = .ok (.putfield 15, 3) := by decide +kernel
theorem d_Law_init_20 : decode prog_7_method_1_code 20 = .ok (.aload_n 0, 1) := by decide +kernel
theorem d_Law_init_21 : decode prog_7_method_1_code 21 = .ok (.iconst 0, 1) := by decide +kernel
theorem d_Law_init_22 : decode prog_7_method_1_code 22 = .ok (.putfield 18, 3) := by decide +kernel
theorem d_Law_init_25 : decode prog_7_method_1_code 25 = .ok (.aload_n 0, 1) := by decide +kernel
theorem d_Law_init_26 : decode prog_7_method_1_code 26 = .ok (.bipush 61, 2) := by decide +kernel
theorem d_Law_init_28 : decode prog_7_method_1_code 28 = .ok (.newarray .int, 2) := by decide +kernel
theorem d_Law_init_30 : decode prog_7_method_1_code 30 = .ok (.putfield 22, 3) := by decide +kernel
theorem d_Law_init_33 : decode prog_7_method_1_code 33 = .ok (.return_, 1) := by decide +kernel
theorem d_Law_learns_0 : decode prog_7_method_2_code 0 = .ok (.aload_n 0, 1) := by decide +kernel
theorem d_Law_learns_1 : decode prog_7_method_2_code 1 = .ok (.aload_n 1, 1) := by decide +kernel
theorem d_Law_learns_2 : decode prog_7_method_2_code 2 = .ok (.aload_n 0, 1) := by decide +kernel
theorem d_Law_learns_3 : decode prog_7_method_2_code 3 = .ok (.getfield 9, 3) := by decide +kernel
theorem d_Law_learns_6 : decode prog_7_method_2_code 6 = .ok (.aload_n 0, 1) := by decide +kernel
theorem d_Law_learns_7 : decode prog_7_method_2_code 7 = .ok (.getfield 15, 3) := by decide +kernel
theorem d_Law_learns_10 : decode prog_7_method_2_code 10 = .ok (.invokevirtual 25, 3) := by decide +kernel
theorem d_Law_learns_13 : decode prog_7_method_2_code 13 = .ok (.putfield 18, 3) := by decide +kernel
theorem d_Law_learns_16 : decode prog_7_method_2_code 16 = .ok (.return_, 1) := by decide +kernel
theorem d_Law_tallness_0 : decode prog_7_method_3_code 0 = .ok (.aload_n 1, 1) := by decide +kernel
theorem d_Law_tallness_1 : decode prog_7_method_3_code 1 = .ok (.iconst 0, 1) := by decide +kernel
theorem d_Law_tallness_2 : decode prog_7_method_3_code 2 = .ok (.iload_n 2, 1) := by decide +kernel
theorem d_Law_tallness_3 : decode prog_7_method_3_code 3 = .ok (.invokevirtual 31, 3) := by decide +kernel
theorem d_Law_tallness_6 : decode prog_7_method_3_code 6 = .ok (.istore 5, 2) := by decide +kernel
theorem d_Law_tallness_8 : decode prog_7_method_3_code 8 = .ok (.aload_n 1, 1) := by decide +kernel
theorem d_Law_tallness_9 : decode prog_7_method_3_code 9 = .ok (.iconst 3, 1) := by decide +kernel
theorem d_Law_tallness_10 : decode prog_7_method_3_code 10 = .ok (.iload_n 2, 1) := by decide +kernel
theorem d_Law_tallness_11 : decode prog_7_method_3_code 11 = .ok (.invokevirtual 31, 3) := by decide +kernel
theorem d_Law_tallness_14 : decode prog_7_method_3_code 14 = .ok (.istore 6, 2) := by decide +kernel
theorem d_Law_tallness_16 : decode prog_7_method_3_code 16 = .ok (.aload_n 0, 1) := by decide +kernel
theorem d_Law_tallness_17 : decode prog_7_method_3_code 17 = .ok (.getfield 18, 3) := by decide +kernel
theorem d_Law_tallness_20 : decode prog_7_method_3_code 20 = .ok (.ifCond .ne 9, 3) := by decide +kernel
theorem d_Law_tallness_23 : decode prog_7_method_3_code 23 = .ok (.iload 5, 2) := by decide +kernel
theorem d_Law_tallness_25 : decode prog_7_method_3_code 25 = .ok (.iload 6, 2) := by decide +kernel
theorem d_Law_tallness_27 : decode prog_7_method_3_code 27 = .ok (.iadd, 1) := by decide +kernel
theorem d_Law_tallness_28 : decode prog_7_method_3_code 28 = .ok (.ireturn, 1) := by decide +kernel
theorem d_Law_tallness_29 : decode prog_7_method_3_code 29 = .ok (.iconst (-1), 1) := by decide +kernel
theorem d_Law_tallness_30 : decode prog_7_method_3_code 30 = .ok (.istore 7, 2) := by decide +kernel
theorem d_Law_tallness_32 : decode prog_7_method_3_code 32 = .ok (.iconst 0, 1) := by decide +kernel
theorem d_Law_tallness_33 : decode prog_7_method_3_code 33 = .ok (.istore 8, 2) := by decide +kernel
theorem d_Law_tallness_35 : decode prog_7_method_3_code 35 = .ok (.iload 8, 2) := by decide +kernel
theorem d_Law_tallness_37 : decode prog_7_method_3_code 37 = .ok (.aload_n 0, 1) := by decide +kernel
theorem d_Law_tallness_38 : decode prog_7_method_3_code 38 = .ok (.getfield 18, 3) := by decide +kernel
theorem d_Law_tallness_41 : decode prog_7_method_3_code 41 = .ok (.if_icmp .ge 407, 3) := by decide +kernel
theorem d_Law_tallness_44 : decode prog_7_method_3_code 44 = .ok (.aload_n 0, 1) := by decide +kernel
theorem d_Law_tallness_45 : decode prog_7_method_3_code 45 = .ok (.getfield 9, 3) := by decide +kernel
theorem d_Law_tallness_48 : decode prog_7_method_3_code 48 = .ok (.iload 8, 2) := by decide +kernel
theorem d_Law_tallness_50 : decode prog_7_method_3_code 50 = .ok (.iaload, 1) := by decide +kernel
theorem d_Law_tallness_51 : decode prog_7_method_3_code 51 = .ok (.istore 9, 2) := by decide +kernel
theorem d_Law_tallness_53 : decode prog_7_method_3_code 53 = .ok (.iload 9, 2) := by decide +kernel
theorem d_Law_tallness_55 : decode prog_7_method_3_code 55 = .ok (.bipush 97, 2) := by decide +kernel
theorem d_Law_tallness_57 : decode prog_7_method_3_code 57 = .ok (.if_icmp .lt 212, 3) := by decide +kernel
theorem d_Law_tallness_60 : decode prog_7_method_3_code 60 = .ok (.iload 9, 2) := by decide +kernel
theorem d_Law_tallness_62 : decode prog_7_method_3_code 62 = .ok (.bipush 122, 2) := by decide +kernel
theorem d_Law_tallness_64 : decode prog_7_method_3_code 64 = .ok (.if_icmp .gt 205, 3) := by decide +kernel
theorem d_Law_tallness_67 : decode prog_7_method_3_code 67 = .ok (.iload 7, 2) := by decide +kernel
theorem d_Law_tallness_69 : decode prog_7_method_3_code 69 = .ok (.aload_n 0, 1) := by decide +kernel
theorem d_Law_tallness_70 : decode prog_7_method_3_code 70 = .ok (.getfield 22, 3) := by decide +kernel
theorem d_Law_tallness_73 : decode prog_7_method_3_code 73 = .ok (.arraylength, 1) := by decide +kernel
theorem d_Law_tallness_74 : decode prog_7_method_3_code 74 = .ok (.iconst 1, 1) := by decide +kernel
theorem d_Law_tallness_75 : decode prog_7_method_3_code 75 = .ok (.isub, 1) := by decide +kernel
theorem d_Law_tallness_76 : decode prog_7_method_3_code 76 = .ok (.if_icmp .lt 5, 3) := by decide +kernel
theorem d_Law_tallness_79 : decode prog_7_method_3_code 79 = .ok (.iconst 0, 1) := by decide +kernel
theorem d_Law_tallness_80 : decode prog_7_method_3_code 80 = .ok (.ireturn, 1) := by decide +kernel
theorem d_Law_tallness_81 : decode prog_7_method_3_code 81 = .ok (.iinc 7 1, 3) := by decide +kernel
theorem d_Law_tallness_84 : decode prog_7_method_3_code 84 = .ok (.iload 9, 2) := by decide +kernel
theorem d_Law_tallness_86 : decode prog_7_method_3_code 86 = .ok (.tableswitch 166 101 119 #[102, 166, 166, 90, 166, 166, 143, 166, 166, 154, 166, 166, 166, 166, 132, 166, 166, 166, 114], 90) := by decide +kernel
theorem d_Law_tallness_176 : decode prog_7_method_3_code 176 = .ok (.aload_n 0, 1) := by decide +kernel
theorem d_Law_tallness_177 : decode prog_7_method_3_code 177 = .ok (.getfield 22, 3) := by decide +kernel
theorem d_Law_tallness_180 : decode prog_7_method_3_code 180 = .ok (.iload 7, 2) := by decide +kernel
theorem d_Law_tallness_182 : decode prog_7_method_3_code 182 = .ok (.iload 5, 2) := by decide +kernel
theorem d_Law_tallness_184 : decode prog_7_method_3_code 184 = .ok (.iastore, 1) := by decide +kernel
theorem d_Law_tallness_185 : decode prog_7_method_3_code 185 = .ok (.goto 257, 3) := by decide +kernel
theorem d_Law_tallness_188 : decode prog_7_method_3_code 188 = .ok (.aload_n 0, 1) := by decide +kernel
theorem d_Law_tallness_189 : decode prog_7_method_3_code 189 = .ok (.getfield 22, 3) := by decide +kernel
theorem d_Law_tallness_192 : decode prog_7_method_3_code 192 = .ok (.iload 7, 2) := by decide +kernel
theorem d_Law_tallness_194 : decode prog_7_method_3_code 194 = .ok (.iload 6, 2) := by decide +kernel
theorem d_Law_tallness_196 : decode prog_7_method_3_code 196 = .ok (.iastore, 1) := by decide +kernel
theorem d_Law_tallness_197 : decode prog_7_method_3_code 197 = .ok (.goto 245, 3) := by decide +kernel
theorem d_Law_tallness_200 : decode prog_7_method_3_code 200 = .ok (.aload_n 0, 1) := by decide +kernel
theorem d_Law_tallness_201 : decode prog_7_method_3_code 201 = .ok (.getfield 22, 3) := by decide +kernel
theorem d_Law_tallness_204 : decode prog_7_method_3_code 204 = .ok (.iload 7, 2) := by decide +kernel
theorem d_Law_tallness_206 : decode prog_7_method_3_code 206 = .ok (.iload_n 3, 1) := by decide +kernel
theorem d_Law_tallness_207 : decode prog_7_method_3_code 207 = .ok (.aload_n 1, 1) := by decide +kernel
theorem d_Law_tallness_208 : decode prog_7_method_3_code 208 = .ok (.iconst 1, 1) := by decide +kernel
theorem d_Law_tallness_209 : decode prog_7_method_3_code 209 = .ok (.iload_n 2, 1) := by decide +kernel
theorem d_Law_tallness_210 : decode prog_7_method_3_code 210 = .ok (.invokevirtual 31, 3) := by decide +kernel
theorem d_Law_tallness_213 : decode prog_7_method_3_code 213 = .ok (.isub, 1) := by decide +kernel
theorem d_Law_tallness_214 : decode prog_7_method_3_code 214 = .ok (.iastore, 1) := by decide +kernel
theorem d_Law_tallness_215 : decode prog_7_method_3_code 215 = .ok (.goto 227, 3) := by decide +kernel
theorem d_Law_tallness_218 : decode prog_7_method_3_code 218 = .ok (.aload_n 0, 1) := by decide +kernel
theorem d_Law_tallness_219 : decode prog_7_method_3_code 219 = .ok (.getfield 22, 3) := by decide +kernel
theorem d_Law_tallness_222 : decode prog_7_method_3_code 222 = .ok (.iload 7, 2) := by decide +kernel
theorem d_Law_tallness_224 : decode prog_7_method_3_code 224 = .ok (.iload_n 3, 1) := by decide +kernel
theorem d_Law_tallness_225 : decode prog_7_method_3_code 225 = .ok (.iastore, 1) := by decide +kernel
theorem d_Law_tallness_226 : decode prog_7_method_3_code 226 = .ok (.goto 216, 3) := by decide +kernel
theorem d_Law_tallness_229 : decode prog_7_method_3_code 229 = .ok (.aload_n 0, 1) := by decide +kernel
theorem d_Law_tallness_230 : decode prog_7_method_3_code 230 = .ok (.getfield 22, 3) := by decide +kernel
theorem d_Law_tallness_233 : decode prog_7_method_3_code 233 = .ok (.iload 7, 2) := by decide +kernel
theorem d_Law_tallness_235 : decode prog_7_method_3_code 235 = .ok (.iload_n 2, 1) := by decide +kernel
theorem d_Law_tallness_236 : decode prog_7_method_3_code 236 = .ok (.iastore, 1) := by decide +kernel
theorem d_Law_tallness_237 : decode prog_7_method_3_code 237 = .ok (.goto 205, 3) := by decide +kernel
theorem d_Law_tallness_240 : decode prog_7_method_3_code 240 = .ok (.aload_n 0, 1) := by decide +kernel
theorem d_Law_tallness_241 : decode prog_7_method_3_code 241 = .ok (.getfield 22, 3) := by decide +kernel
theorem d_Law_tallness_244 : decode prog_7_method_3_code 244 = .ok (.iload 7, 2) := by decide +kernel
theorem d_Law_tallness_246 : decode prog_7_method_3_code 246 = .ok (.iload 4, 2) := by decide +kernel
theorem d_Law_tallness_248 : decode prog_7_method_3_code 248 = .ok (.iastore, 1) := by decide +kernel
theorem d_Law_tallness_249 : decode prog_7_method_3_code 249 = .ok (.goto 193, 3) := by decide +kernel
theorem d_Law_tallness_252 : decode prog_7_method_3_code 252 = .ok (.aload_n 0, 1) := by decide +kernel
theorem d_Law_tallness_253 : decode prog_7_method_3_code 253 = .ok (.getfield 22, 3) := by decide +kernel
theorem d_Law_tallness_256 : decode prog_7_method_3_code 256 = .ok (.iload 7, 2) := by decide +kernel
theorem d_Law_tallness_258 : decode prog_7_method_3_code 258 = .ok (.aload_n 0, 1) := by decide +kernel
theorem d_Law_tallness_259 : decode prog_7_method_3_code 259 = .ok (.getfield 15, 3) := by decide +kernel
theorem d_Law_tallness_262 : decode prog_7_method_3_code 262 = .ok (.iload 8, 2) := by decide +kernel
theorem d_Law_tallness_264 : decode prog_7_method_3_code 264 = .ok (.iaload, 1) := by decide +kernel
theorem d_Law_tallness_265 : decode prog_7_method_3_code 265 = .ok (.iastore, 1) := by decide +kernel
theorem d_Law_tallness_266 : decode prog_7_method_3_code 266 = .ok (.goto 176, 3) := by decide +kernel
theorem d_Law_tallness_269 : decode prog_7_method_3_code 269 = .ok (.iload 7, 2) := by decide +kernel
theorem d_Law_tallness_271 : decode prog_7_method_3_code 271 = .ok (.ifCond .ge 5, 3) := by decide +kernel
theorem d_Law_tallness_274 : decode prog_7_method_3_code 274 = .ok (.iconst 0, 1) := by decide +kernel
theorem d_Law_tallness_275 : decode prog_7_method_3_code 275 = .ok (.ireturn, 1) := by decide +kernel
theorem d_Law_tallness_276 : decode prog_7_method_3_code 276 = .ok (.iload 9, 2) := by decide +kernel
theorem d_Law_tallness_278 : decode prog_7_method_3_code 278 = .ok (.lookupswitch 125 #[(33, 42), (59, 85), (63, 93), (126, 67)], 42) := by decide +kernel
theorem d_Law_tallness_320 : decode prog_7_method_3_code 320 = .ok (.aload_n 0, 1) := by decide +kernel
theorem d_Law_tallness_321 : decode prog_7_method_3_code 321 = .ok (.getfield 22, 3) := by decide +kernel
theorem d_Law_tallness_324 : decode prog_7_method_3_code 324 = .ok (.iload 7, 2) := by decide +kernel
theorem d_Law_tallness_326 : decode prog_7_method_3_code 326 = .ok (.aload_n 0, 1) := by decide +kernel
theorem d_Law_tallness_327 : decode prog_7_method_3_code 327 = .ok (.getfield 22, 3) := by decide +kernel
theorem d_Law_tallness_330 : decode prog_7_method_3_code 330 = .ok (.iload 7, 2) := by decide +kernel
theorem d_Law_tallness_332 : decode prog_7_method_3_code 332 = .ok (.iaload, 1) := by decide +kernel
theorem d_Law_tallness_333 : decode prog_7_method_3_code 333 = .ok (.ifCond .ne 7, 3) := by decide +kernel
theorem d_Law_tallness_336 : decode prog_7_method_3_code 336 = .ok (.iconst 1, 1) := by decide +kernel
theorem d_Law_tallness_337 : decode prog_7_method_3_code 337 = .ok (.goto 4, 3) := by decide +kernel
theorem d_Law_tallness_340 : decode prog_7_method_3_code 340 = .ok (.iconst 0, 1) := by decide +kernel
theorem d_Law_tallness_341 : decode prog_7_method_3_code 341 = .ok (.iastore, 1) := by decide +kernel
theorem d_Law_tallness_342 : decode prog_7_method_3_code 342 = .ok (.goto 100, 3) := by decide +kernel
theorem d_Law_tallness_345 : decode prog_7_method_3_code 345 = .ok (.aload_n 0, 1) := by decide +kernel
theorem d_Law_tallness_346 : decode prog_7_method_3_code 346 = .ok (.getfield 22, 3) := by decide +kernel
theorem d_Law_tallness_349 : decode prog_7_method_3_code 349 = .ok (.iload 7, 2) := by decide +kernel
theorem d_Law_tallness_351 : decode prog_7_method_3_code 351 = .ok (.aload_n 0, 1) := by decide +kernel
theorem d_Law_tallness_352 : decode prog_7_method_3_code 352 = .ok (.getfield 22, 3) := by decide +kernel
theorem d_Law_tallness_355 : decode prog_7_method_3_code 355 = .ok (.iload 7, 2) := by decide +kernel
theorem d_Law_tallness_357 : decode prog_7_method_3_code 357 = .ok (.iaload, 1) := by decide +kernel
theorem d_Law_tallness_358 : decode prog_7_method_3_code 358 = .ok (.ineg, 1) := by decide +kernel
theorem d_Law_tallness_359 : decode prog_7_method_3_code 359 = .ok (.iastore, 1) := by decide +kernel
theorem d_Law_tallness_360 : decode prog_7_method_3_code 360 = .ok (.goto 82, 3) := by decide +kernel
theorem d_Law_tallness_363 : decode prog_7_method_3_code 363 = .ok (.aload_n 0, 1) := by decide +kernel
theorem d_Law_tallness_364 : decode prog_7_method_3_code 364 = .ok (.getfield 22, 3) := by decide +kernel
theorem d_Law_tallness_367 : decode prog_7_method_3_code 367 = .ok (.iload 7, 2) := by decide +kernel
theorem d_Law_tallness_369 : decode prog_7_method_3_code 369 = .ok (.iaload, 1) := by decide +kernel
theorem d_Law_tallness_370 : decode prog_7_method_3_code 370 = .ok (.ireturn, 1) := by decide +kernel
theorem d_Law_tallness_371 : decode prog_7_method_3_code 371 = .ok (.aload_n 0, 1) := by decide +kernel
theorem d_Law_tallness_372 : decode prog_7_method_3_code 372 = .ok (.getfield 22, 3) := by decide +kernel
theorem d_Law_tallness_375 : decode prog_7_method_3_code 375 = .ok (.iload 7, 2) := by decide +kernel
theorem d_Law_tallness_377 : decode prog_7_method_3_code 377 = .ok (.iaload, 1) := by decide +kernel
theorem d_Law_tallness_378 : decode prog_7_method_3_code 378 = .ok (.ifCond .ne 19, 3) := by decide +kernel
theorem d_Law_tallness_381 : decode prog_7_method_3_code 381 = .ok (.iload 8, 2) := by decide +kernel
theorem d_Law_tallness_383 : decode prog_7_method_3_code 383 = .ok (.aload_n 0, 1) := by decide +kernel
theorem d_Law_tallness_384 : decode prog_7_method_3_code 384 = .ok (.getfield 15, 3) := by decide +kernel
theorem d_Law_tallness_387 : decode prog_7_method_3_code 387 = .ok (.iload 8, 2) := by decide +kernel
theorem d_Law_tallness_389 : decode prog_7_method_3_code 389 = .ok (.iaload, 1) := by decide +kernel
theorem d_Law_tallness_390 : decode prog_7_method_3_code 390 = .ok (.iconst 1, 1) := by decide +kernel
theorem d_Law_tallness_391 : decode prog_7_method_3_code 391 = .ok (.isub, 1) := by decide +kernel
theorem d_Law_tallness_392 : decode prog_7_method_3_code 392 = .ok (.invokestatic 35, 3) := by decide +kernel
theorem d_Law_tallness_395 : decode prog_7_method_3_code 395 = .ok (.istore 8, 2) := by decide +kernel
theorem d_Law_tallness_397 : decode prog_7_method_3_code 397 = .ok (.iinc 7 (-1), 3) := by decide +kernel
theorem d_Law_tallness_400 : decode prog_7_method_3_code 400 = .ok (.goto 42, 3) := by decide +kernel
theorem d_Law_tallness_403 : decode prog_7_method_3_code 403 = .ok (.iload 7, 2) := by decide +kernel
theorem d_Law_tallness_405 : decode prog_7_method_3_code 405 = .ok (.iconst 1, 1) := by decide +kernel
theorem d_Law_tallness_406 : decode prog_7_method_3_code 406 = .ok (.if_icmp .ge 5, 3) := by decide +kernel
theorem d_Law_tallness_409 : decode prog_7_method_3_code 409 = .ok (.iconst 0, 1) := by decide +kernel
theorem d_Law_tallness_410 : decode prog_7_method_3_code 410 = .ok (.ireturn, 1) := by decide +kernel
theorem d_Law_tallness_411 : decode prog_7_method_3_code 411 = .ok (.iinc 7 (-1), 3) := by decide +kernel
theorem d_Law_tallness_414 : decode prog_7_method_3_code 414 = .ok (.aload_n 0, 1) := by decide +kernel
theorem d_Law_tallness_415 : decode prog_7_method_3_code 415 = .ok (.getfield 22, 3) := by decide +kernel
theorem d_Law_tallness_418 : decode prog_7_method_3_code 418 = .ok (.iload 7, 2) := by decide +kernel
theorem d_Law_tallness_420 : decode prog_7_method_3_code 420 = .ok (.iload 9, 2) := by decide +kernel
theorem d_Law_tallness_422 : decode prog_7_method_3_code 422 = .ok (.aload_n 0, 1) := by decide +kernel
theorem d_Law_tallness_423 : decode prog_7_method_3_code 423 = .ok (.getfield 22, 3) := by decide +kernel
theorem d_Law_tallness_426 : decode prog_7_method_3_code 426 = .ok (.iload 7, 2) := by decide +kernel
theorem d_Law_tallness_428 : decode prog_7_method_3_code 428 = .ok (.iaload, 1) := by decide +kernel
theorem d_Law_tallness_429 : decode prog_7_method_3_code 429 = .ok (.aload_n 0, 1) := by decide +kernel
theorem d_Law_tallness_430 : decode prog_7_method_3_code 430 = .ok (.getfield 22, 3) := by decide +kernel
theorem d_Law_tallness_433 : decode prog_7_method_3_code 433 = .ok (.iload 7, 2) := by decide +kernel
theorem d_Law_tallness_435 : decode prog_7_method_3_code 435 = .ok (.iconst 1, 1) := by decide +kernel
theorem d_Law_tallness_436 : decode prog_7_method_3_code 436 = .ok (.iadd, 1) := by decide +kernel
theorem d_Law_tallness_437 : decode prog_7_method_3_code 437 = .ok (.iaload, 1) := by decide +kernel
theorem d_Law_tallness_438 : decode prog_7_method_3_code 438 = .ok (.invokestatic 40, 3) := by decide +kernel
theorem d_Law_tallness_441 : decode prog_7_method_3_code 441 = .ok (.iastore, 1) := by decide +kernel
theorem d_Law_tallness_442 : decode prog_7_method_3_code 442 = .ok (.iinc 8 1, 3) := by decide +kernel
theorem d_Law_tallness_445 : decode prog_7_method_3_code 445 = .ok (.goto (-410), 3) := by decide +kernel
theorem d_Law_tallness_448 : decode prog_7_method_3_code 448 = .ok (.iconst 0, 1) := by decide +kernel
theorem d_Law_tallness_449 : decode prog_7_method_3_code 449 = .ok (.ireturn, 1) := by decide +kernel
theorem d_Law_joined_0 : decode prog_7_method_4_code 0 = .ok (.iload_n 0, 1) := by decide +kernel
theorem d_Law_joined_1 : decode prog_7_method_4_code 1 = .ok (.lookupswitch 188 #[(37, 176), (38, 105), (42, 160), (43, 152), (45, 156), (47, 164), (60, 119), (61, 130), (62, 141), (124, 91)], 91) := by decide +kernel
theorem d_Law_joined_92 : decode prog_7_method_4_code 92 = .ok (.iload_n 1, 1) := by decide +kernel
theorem d_Law_joined_93 : decode prog_7_method_4_code 93 = .ok (.ifCond .ne 7, 3) := by decide +kernel
theorem d_Law_joined_96 : decode prog_7_method_4_code 96 = .ok (.iload_n 2, 1) := by decide +kernel
theorem d_Law_joined_97 : decode prog_7_method_4_code 97 = .ok (.ifCond .eq 7, 3) := by decide +kernel
theorem d_Law_joined_100 : decode prog_7_method_4_code 100 = .ok (.iconst 1, 1) := by decide +kernel
theorem d_Law_joined_101 : decode prog_7_method_4_code 101 = .ok (.goto 4, 3) := by decide +kernel
theorem d_Law_joined_104 : decode prog_7_method_4_code 104 = .ok (.iconst 0, 1) := by decide +kernel
theorem d_Law_joined_105 : decode prog_7_method_4_code 105 = .ok (.ireturn, 1) := by decide +kernel
theorem d_Law_joined_106 : decode prog_7_method_4_code 106 = .ok (.iload_n 1, 1) := by decide +kernel
theorem d_Law_joined_107 : decode prog_7_method_4_code 107 = .ok (.ifCond .eq 11, 3) := by decide +kernel
theorem d_Law_joined_110 : decode prog_7_method_4_code 110 = .ok (.iload_n 2, 1) := by decide +kernel
theorem d_Law_joined_111 : decode prog_7_method_4_code 111 = .ok (.ifCond .eq 7, 3) := by decide +kernel
theorem d_Law_joined_114 : decode prog_7_method_4_code 114 = .ok (.iconst 1, 1) := by decide +kernel
theorem d_Law_joined_115 : decode prog_7_method_4_code 115 = .ok (.goto 4, 3) := by decide +kernel
theorem d_Law_joined_118 : decode prog_7_method_4_code 118 = .ok (.iconst 0, 1) := by decide +kernel
theorem d_Law_joined_119 : decode prog_7_method_4_code 119 = .ok (.ireturn, 1) := by decide +kernel
theorem d_Law_joined_120 : decode prog_7_method_4_code 120 = .ok (.iload_n 1, 1) := by decide +kernel
theorem d_Law_joined_121 : decode prog_7_method_4_code 121 = .ok (.iload_n 2, 1) := by decide +kernel
theorem d_Law_joined_122 : decode prog_7_method_4_code 122 = .ok (.if_icmp .ge 7, 3) := by decide +kernel
theorem d_Law_joined_125 : decode prog_7_method_4_code 125 = .ok (.iconst 1, 1) := by decide +kernel
theorem d_Law_joined_126 : decode prog_7_method_4_code 126 = .ok (.goto 4, 3) := by decide +kernel
theorem d_Law_joined_129 : decode prog_7_method_4_code 129 = .ok (.iconst 0, 1) := by decide +kernel
theorem d_Law_joined_130 : decode prog_7_method_4_code 130 = .ok (.ireturn, 1) := by decide +kernel
theorem d_Law_joined_131 : decode prog_7_method_4_code 131 = .ok (.iload_n 1, 1) := by decide +kernel
theorem d_Law_joined_132 : decode prog_7_method_4_code 132 = .ok (.iload_n 2, 1) := by decide +kernel
theorem d_Law_joined_133 : decode prog_7_method_4_code 133 = .ok (.if_icmp .ne 7, 3) := by decide +kernel
theorem d_Law_joined_136 : decode prog_7_method_4_code 136 = .ok (.iconst 1, 1) := by decide +kernel
theorem d_Law_joined_137 : decode prog_7_method_4_code 137 = .ok (.goto 4, 3) := by decide +kernel
theorem d_Law_joined_140 : decode prog_7_method_4_code 140 = .ok (.iconst 0, 1) := by decide +kernel
theorem d_Law_joined_141 : decode prog_7_method_4_code 141 = .ok (.ireturn, 1) := by decide +kernel
theorem d_Law_joined_142 : decode prog_7_method_4_code 142 = .ok (.iload_n 1, 1) := by decide +kernel
theorem d_Law_joined_143 : decode prog_7_method_4_code 143 = .ok (.iload_n 2, 1) := by decide +kernel
theorem d_Law_joined_144 : decode prog_7_method_4_code 144 = .ok (.if_icmp .le 7, 3) := by decide +kernel
theorem d_Law_joined_147 : decode prog_7_method_4_code 147 = .ok (.iconst 1, 1) := by decide +kernel
theorem d_Law_joined_148 : decode prog_7_method_4_code 148 = .ok (.goto 4, 3) := by decide +kernel
theorem d_Law_joined_151 : decode prog_7_method_4_code 151 = .ok (.iconst 0, 1) := by decide +kernel
theorem d_Law_joined_152 : decode prog_7_method_4_code 152 = .ok (.ireturn, 1) := by decide +kernel
theorem d_Law_joined_153 : decode prog_7_method_4_code 153 = .ok (.iload_n 1, 1) := by decide +kernel
theorem d_Law_joined_154 : decode prog_7_method_4_code 154 = .ok (.iload_n 2, 1) := by decide +kernel
theorem d_Law_joined_155 : decode prog_7_method_4_code 155 = .ok (.iadd, 1) := by decide +kernel
theorem d_Law_joined_156 : decode prog_7_method_4_code 156 = .ok (.ireturn, 1) := by decide +kernel
theorem d_Law_joined_157 : decode prog_7_method_4_code 157 = .ok (.iload_n 1, 1) := by decide +kernel
theorem d_Law_joined_158 : decode prog_7_method_4_code 158 = .ok (.iload_n 2, 1) := by decide +kernel
theorem d_Law_joined_159 : decode prog_7_method_4_code 159 = .ok (.isub, 1) := by decide +kernel
theorem d_Law_joined_160 : decode prog_7_method_4_code 160 = .ok (.ireturn, 1) := by decide +kernel
theorem d_Law_joined_161 : decode prog_7_method_4_code 161 = .ok (.iload_n 1, 1) := by decide +kernel
theorem d_Law_joined_162 : decode prog_7_method_4_code 162 = .ok (.iload_n 2, 1) := by decide +kernel
theorem d_Law_joined_163 : decode prog_7_method_4_code 163 = .ok (.imul, 1) := by decide +kernel
theorem d_Law_joined_164 : decode prog_7_method_4_code 164 = .ok (.ireturn, 1) := by decide +kernel
theorem d_Law_joined_165 : decode prog_7_method_4_code 165 = .ok (.iload_n 2, 1) := by decide +kernel
theorem d_Law_joined_166 : decode prog_7_method_4_code 166 = .ok (.ifCond .ne 7, 3) := by decide +kernel
theorem d_Law_joined_169 : decode prog_7_method_4_code 169 = .ok (.iconst 0, 1) := by decide +kernel
theorem d_Law_joined_170 : decode prog_7_method_4_code 170 = .ok (.goto 6, 3) := by decide +kernel
theorem d_Law_joined_173 : decode prog_7_method_4_code 173 = .ok (.iload_n 1, 1) := by decide +kernel
theorem d_Law_joined_174 : decode prog_7_method_4_code 174 = .ok (.iload_n 2, 1) := by decide +kernel
theorem d_Law_joined_175 : decode prog_7_method_4_code 175 = .ok (.idiv, 1) := by decide +kernel
theorem d_Law_joined_176 : decode prog_7_method_4_code 176 = .ok (.ireturn, 1) := by decide +kernel
theorem d_Law_joined_177 : decode prog_7_method_4_code 177 = .ok (.iload_n 2, 1) := by decide +kernel
theorem d_Law_joined_178 : decode prog_7_method_4_code 178 = .ok (.ifCond .ne 7, 3) := by decide +kernel
theorem d_Law_joined_181 : decode prog_7_method_4_code 181 = .ok (.iconst 0, 1) := by decide +kernel
theorem d_Law_joined_182 : decode prog_7_method_4_code 182 = .ok (.goto 6, 3) := by decide +kernel
theorem d_Law_joined_185 : decode prog_7_method_4_code 185 = .ok (.iload_n 1, 1) := by decide +kernel
theorem d_Law_joined_186 : decode prog_7_method_4_code 186 = .ok (.iload_n 2, 1) := by decide +kernel
theorem d_Law_joined_187 : decode prog_7_method_4_code 187 = .ok (.irem, 1) := by decide +kernel
theorem d_Law_joined_188 : decode prog_7_method_4_code 188 = .ok (.ireturn, 1) := by decide +kernel
theorem d_Law_joined_189 : decode prog_7_method_4_code 189 = .ok (.iconst 0, 1) := by decide +kernel
theorem d_Law_joined_190 : decode prog_7_method_4_code 190 = .ok (.ireturn, 1) := by decide +kernel
theorem d_Picker_init_0 : decode prog_8_method_1_code 0 = .ok (.aload_n 0, 1) := by decide +kernel
theorem d_Picker_init_1 : decode prog_8_method_1_code 1 = .ok (.invokespecial 3, 3) := by decide +kernel
theorem d_Picker_init_4 : decode prog_8_method_1_code 4 = .ok (.aload_n 0, 1) := by decide +kernel
theorem d_Picker_init_5 : decode prog_8_method_1_code 5 = .ok (.bipush 15, 2) := by decide +kernel
theorem d_Picker_init_7 : decode prog_8_method_1_code 7 = .ok (.newarray .int, 2) := by decide +kernel
theorem d_Picker_init_9 : decode prog_8_method_1_code 9 = .ok (.putfield 11, 3) := by decide +kernel
theorem d_Picker_init_12 : decode prog_8_method_1_code 12 = .ok (.aload_n 0, 1) := by decide +kernel
theorem d_Picker_init_13 : decode prog_8_method_1_code 13 = .ok (.bipush 15, 2) := by decide +kernel
theorem d_Picker_init_15 : decode prog_8_method_1_code 15 = .ok (.newarray .int, 2) := by decide +kernel
theorem d_Picker_init_17 : decode prog_8_method_1_code 17 = .ok (.putfield 17, 3) := by decide +kernel
theorem d_Picker_init_20 : decode prog_8_method_1_code 20 = .ok (.aload_n 0, 1) := by decide +kernel
theorem d_Picker_init_21 : decode prog_8_method_1_code 21 = .ok (.aload_n 1, 1) := by decide +kernel
theorem d_Picker_init_22 : decode prog_8_method_1_code 22 = .ok (.putfield 20, 3) := by decide +kernel
theorem d_Picker_init_25 : decode prog_8_method_1_code 25 = .ok (.return_, 1) := by decide +kernel
theorem d_Picker_picks_0 : decode prog_8_method_2_code 0 = .ok (.iload_n 3, 1) := by decide +kernel
theorem d_Picker_picks_1 : decode prog_8_method_2_code 1 = .ok (.invokestatic 24, 3) := by decide +kernel
theorem d_Picker_picks_4 : decode prog_8_method_2_code 4 = .ok (.istore 5, 2) := by decide +kernel
theorem d_Picker_picks_6 : decode prog_8_method_2_code 6 = .ok (.iload 5, 2) := by decide +kernel
theorem d_Picker_picks_8 : decode prog_8_method_2_code 8 = .ok (.ifCond .eq 16, 3) := by decide +kernel
theorem d_Picker_picks_11 : decode prog_8_method_2_code 11 = .ok (.iload 4, 2) := by decide +kernel
theorem d_Picker_picks_13 : decode prog_8_method_2_code 13 = .ok (.iconst 5, 1) := by decide +kernel
theorem d_Picker_picks_14 : decode prog_8_method_2_code 14 = .ok (.if_icmp .ne 12, 3) := by decide +kernel
theorem d_Picker_picks_17 : decode prog_8_method_2_code 17 = .ok (.iload 5, 2) := by decide +kernel
theorem d_Picker_picks_19 : decode prog_8_method_2_code 19 = .ok (.iconst 2, 1) := by decide +kernel
theorem d_Picker_picks_20 : decode prog_8_method_2_code 20 = .ok (.irem, 1) := by decide +kernel
theorem d_Picker_picks_21 : decode prog_8_method_2_code 21 = .ok (.ifCond .ne 5, 3) := by decide +kernel
theorem d_Picker_picks_24 : decode prog_8_method_2_code 24 = .ok (.iconst (-1), 1) := by decide +kernel
theorem d_Picker_picks_25 : decode prog_8_method_2_code 25 = .ok (.ireturn, 1) := by decide +kernel
theorem d_Picker_picks_26 : decode prog_8_method_2_code 26 = .ok (.iload 4, 2) := by decide +kernel
theorem d_Picker_picks_28 : decode prog_8_method_2_code 28 = .ok (.iconst 5, 1) := by decide +kernel
theorem d_Picker_picks_29 : decode prog_8_method_2_code 29 = .ok (.if_icmp .ne 10, 3) := by decide +kernel
theorem d_Picker_picks_32 : decode prog_8_method_2_code 32 = .ok (.iload 5, 2) := by decide +kernel
theorem d_Picker_picks_34 : decode prog_8_method_2_code 34 = .ok (.iconst 2, 1) := by decide +kernel
theorem d_Picker_picks_35 : decode prog_8_method_2_code 35 = .ok (.idiv, 1) := by decide +kernel
theorem d_Picker_picks_36 : decode prog_8_method_2_code 36 = .ok (.goto 12, 3) := by decide +kernel
theorem d_Picker_picks_39 : decode prog_8_method_2_code 39 = .ok (.iload 4, 2) := by decide +kernel
theorem d_Picker_picks_41 : decode prog_8_method_2_code 41 = .ok (.iload 5, 2) := by decide +kernel
theorem d_Picker_picks_43 : decode prog_8_method_2_code 43 = .ok (.iconst 1, 1) := by decide +kernel
theorem d_Picker_picks_44 : decode prog_8_method_2_code 44 = .ok (.isub, 1) := by decide +kernel
theorem d_Picker_picks_45 : decode prog_8_method_2_code 45 = .ok (.imul, 1) := by decide +kernel
theorem d_Picker_picks_46 : decode prog_8_method_2_code 46 = .ok (.iconst 4, 1) := by decide +kernel
theorem d_Picker_picks_47 : decode prog_8_method_2_code 47 = .ok (.idiv, 1) := by decide +kernel
theorem d_Picker_picks_48 : decode prog_8_method_2_code 48 = .ok (.istore 6, 2) := by decide +kernel
theorem d_Picker_picks_50 : decode prog_8_method_2_code 50 = .ok (.iconst 0, 1) := by decide +kernel
theorem d_Picker_picks_51 : decode prog_8_method_2_code 51 = .ok (.istore 7, 2) := by decide +kernel
theorem d_Picker_picks_53 : decode prog_8_method_2_code 53 = .ok (.iconst 0, 1) := by decide +kernel
theorem d_Picker_picks_54 : decode prog_8_method_2_code 54 = .ok (.istore 8, 2) := by decide +kernel
theorem d_Picker_picks_56 : decode prog_8_method_2_code 56 = .ok (.iload 8, 2) := by decide +kernel
theorem d_Picker_picks_58 : decode prog_8_method_2_code 58 = .ok (.aload_n 1, 1) := by decide +kernel
theorem d_Picker_picks_59 : decode prog_8_method_2_code 59 = .ok (.invokevirtual 30, 3) := by decide +kernel
theorem d_Picker_picks_62 : decode prog_8_method_2_code 62 = .ok (.if_icmp .ge 128, 3) := by decide +kernel
theorem d_Picker_picks_65 : decode prog_8_method_2_code 65 = .ok (.iload_n 3, 1) := by decide +kernel
theorem d_Picker_picks_66 : decode prog_8_method_2_code 66 = .ok (.iload 8, 2) := by decide +kernel
theorem d_Picker_picks_68 : decode prog_8_method_2_code 68 = .ok (.ishr, 1) := by decide +kernel
theorem d_Picker_picks_69 : decode prog_8_method_2_code 69 = .ok (.iconst 1, 1) := by decide +kernel
theorem d_Picker_picks_70 : decode prog_8_method_2_code 70 = .ok (.iand, 1) := by decide +kernel
theorem d_Picker_picks_71 : decode prog_8_method_2_code 71 = .ok (.ifCond .ne 6, 3) := by decide +kernel
theorem d_Picker_picks_74 : decode prog_8_method_2_code 74 = .ok (.goto 110, 3) := by decide +kernel
theorem d_Picker_picks_77 : decode prog_8_method_2_code 77 = .ok (.iload 5, 2) := by decide +kernel
theorem d_Picker_picks_79 : decode prog_8_method_2_code 79 = .ok (.iconst 1, 1) := by decide +kernel
theorem d_Picker_picks_80 : decode prog_8_method_2_code 80 = .ok (.if_icmp .ne 7, 3) := by decide +kernel
theorem d_Picker_picks_83 : decode prog_8_method_2_code 83 = .ok (.iconst 0, 1) := by decide +kernel
theorem d_Picker_picks_84 : decode prog_8_method_2_code 84 = .ok (.goto 16, 3) := by decide +kernel
theorem d_Picker_picks_87 : decode prog_8_method_2_code 87 = .ok (.aload_n 0, 1) := by decide +kernel
theorem d_Picker_picks_88 : decode prog_8_method_2_code 88 = .ok (.getfield 20, 3) := by decide +kernel
theorem d_Picker_picks_91 : decode prog_8_method_2_code 91 = .ok (.aload_n 1, 1) := by decide +kernel
theorem d_Picker_picks_92 : decode prog_8_method_2_code 92 = .ok (.iload 8, 2) := by decide +kernel
theorem d_Picker_picks_94 : decode prog_8_method_2_code 94 = .ok (.iload_n 2, 1) := by decide +kernel
theorem d_Picker_picks_95 : decode prog_8_method_2_code 95 = .ok (.iload 5, 2) := by decide +kernel
theorem d_Picker_picks_97 : decode prog_8_method_2_code 97 = .ok (.invokevirtual 34, 3) := by decide +kernel
theorem d_Picker_picks_100 : decode prog_8_method_2_code 100 = .ok (.istore 9, 2) := by decide +kernel
theorem d_Picker_picks_102 : decode prog_8_method_2_code 102 = .ok (.iload 7, 2) := by decide +kernel
theorem d_Picker_picks_104 : decode prog_8_method_2_code 104 = .ok (.istore 10, 2) := by decide +kernel
theorem d_Picker_picks_106 : decode prog_8_method_2_code 106 = .ok (.iload 10, 2) := by decide +kernel
theorem d_Picker_picks_108 : decode prog_8_method_2_code 108 = .ok (.ifCond .le 55, 3) := by decide +kernel
theorem d_Picker_picks_111 : decode prog_8_method_2_code 111 = .ok (.aload_n 0, 1) := by decide +kernel
theorem d_Picker_picks_112 : decode prog_8_method_2_code 112 = .ok (.getfield 17, 3) := by decide +kernel
theorem d_Picker_picks_115 : decode prog_8_method_2_code 115 = .ok (.iload 10, 2) := by decide +kernel
theorem d_Picker_picks_117 : decode prog_8_method_2_code 117 = .ok (.iconst 1, 1) := by decide +kernel
theorem d_Picker_picks_118 : decode prog_8_method_2_code 118 = .ok (.isub, 1) := by decide +kernel
theorem d_Picker_picks_119 : decode prog_8_method_2_code 119 = .ok (.iaload, 1) := by decide +kernel
theorem d_Picker_picks_120 : decode prog_8_method_2_code 120 = .ok (.iload 9, 2) := by decide +kernel
theorem d_Picker_picks_122 : decode prog_8_method_2_code 122 = .ok (.if_icmp .le 41, 3) := by decide +kernel
theorem d_Picker_picks_125 : decode prog_8_method_2_code 125 = .ok (.aload_n 0, 1) := by decide +kernel
theorem d_Picker_picks_126 : decode prog_8_method_2_code 126 = .ok (.getfield 11, 3) := by decide +kernel
theorem d_Picker_picks_129 : decode prog_8_method_2_code 129 = .ok (.iload 10, 2) := by decide +kernel
theorem d_Picker_picks_131 : decode prog_8_method_2_code 131 = .ok (.aload_n 0, 1) := by decide +kernel
theorem d_Picker_picks_132 : decode prog_8_method_2_code 132 = .ok (.getfield 11, 3) := by decide +kernel
theorem d_Picker_picks_135 : decode prog_8_method_2_code 135 = .ok (.iload 10, 2) := by decide +kernel
theorem d_Picker_picks_137 : decode prog_8_method_2_code 137 = .ok (.iconst 1, 1) := by decide +kernel
theorem d_Picker_picks_138 : decode prog_8_method_2_code 138 = .ok (.isub, 1) := by decide +kernel
theorem d_Picker_picks_139 : decode prog_8_method_2_code 139 = .ok (.iaload, 1) := by decide +kernel
theorem d_Picker_picks_140 : decode prog_8_method_2_code 140 = .ok (.iastore, 1) := by decide +kernel
theorem d_Picker_picks_141 : decode prog_8_method_2_code 141 = .ok (.aload_n 0, 1) := by decide +kernel
theorem d_Picker_picks_142 : decode prog_8_method_2_code 142 = .ok (.getfield 17, 3) := by decide +kernel
theorem d_Picker_picks_145 : decode prog_8_method_2_code 145 = .ok (.iload 10, 2) := by decide +kernel
theorem d_Picker_picks_147 : decode prog_8_method_2_code 147 = .ok (.aload_n 0, 1) := by decide +kernel
theorem d_Picker_picks_148 : decode prog_8_method_2_code 148 = .ok (.getfield 17, 3) := by decide +kernel
theorem d_Picker_picks_151 : decode prog_8_method_2_code 151 = .ok (.iload 10, 2) := by decide +kernel
theorem d_Picker_picks_153 : decode prog_8_method_2_code 153 = .ok (.iconst 1, 1) := by decide +kernel
theorem d_Picker_picks_154 : decode prog_8_method_2_code 154 = .ok (.isub, 1) := by decide +kernel
theorem d_Picker_picks_155 : decode prog_8_method_2_code 155 = .ok (.iaload, 1) := by decide +kernel
theorem d_Picker_picks_156 : decode prog_8_method_2_code 156 = .ok (.iastore, 1) := by decide +kernel
theorem d_Picker_picks_157 : decode prog_8_method_2_code 157 = .ok (.iinc 10 (-1), 3) := by decide +kernel
theorem d_Picker_picks_160 : decode prog_8_method_2_code 160 = .ok (.goto (-54), 3) := by decide +kernel
theorem d_Picker_picks_163 : decode prog_8_method_2_code 163 = .ok (.aload_n 0, 1) := by decide +kernel
theorem d_Picker_picks_164 : decode prog_8_method_2_code 164 = .ok (.getfield 11, 3) := by decide +kernel
theorem d_Picker_picks_167 : decode prog_8_method_2_code 167 = .ok (.iload 10, 2) := by decide +kernel
theorem d_Picker_picks_169 : decode prog_8_method_2_code 169 = .ok (.iload 8, 2) := by decide +kernel
theorem d_Picker_picks_171 : decode prog_8_method_2_code 171 = .ok (.iastore, 1) := by decide +kernel
theorem d_Picker_picks_172 : decode prog_8_method_2_code 172 = .ok (.aload_n 0, 1) := by decide +kernel
theorem d_Picker_picks_173 : decode prog_8_method_2_code 173 = .ok (.getfield 17, 3) := by decide +kernel
theorem d_Picker_picks_176 : decode prog_8_method_2_code 176 = .ok (.iload 10, 2) := by decide +kernel
theorem d_Picker_picks_178 : decode prog_8_method_2_code 178 = .ok (.iload 9, 2) := by decide +kernel
theorem d_Picker_picks_180 : decode prog_8_method_2_code 180 = .ok (.iastore, 1) := by decide +kernel
theorem d_Picker_picks_181 : decode prog_8_method_2_code 181 = .ok (.iinc 7 1, 3) := by decide +kernel
theorem d_Picker_picks_184 : decode prog_8_method_2_code 184 = .ok (.iinc 8 1, 3) := by decide +kernel
theorem d_Picker_picks_187 : decode prog_8_method_2_code 187 = .ok (.goto (-131), 3) := by decide +kernel
theorem d_Picker_picks_190 : decode prog_8_method_2_code 190 = .ok (.iload 6, 2) := by decide +kernel
theorem d_Picker_picks_192 : decode prog_8_method_2_code 192 = .ok (.ifCond .lt 20, 3) := by decide +kernel
theorem d_Picker_picks_195 : decode prog_8_method_2_code 195 = .ok (.iload 6, 2) := by decide +kernel
theorem d_Picker_picks_197 : decode prog_8_method_2_code 197 = .ok (.iload 7, 2) := by decide +kernel
theorem d_Picker_picks_199 : decode prog_8_method_2_code 199 = .ok (.if_icmp .ge 13, 3) := by decide +kernel
theorem d_Picker_picks_202 : decode prog_8_method_2_code 202 = .ok (.aload_n 0, 1) := by decide +kernel
theorem d_Picker_picks_203 : decode prog_8_method_2_code 203 = .ok (.getfield 11, 3) := by decide +kernel
theorem d_Picker_picks_206 : decode prog_8_method_2_code 206 = .ok (.iload 6, 2) := by decide +kernel
theorem d_Picker_picks_208 : decode prog_8_method_2_code 208 = .ok (.iaload, 1) := by decide +kernel
theorem d_Picker_picks_209 : decode prog_8_method_2_code 209 = .ok (.goto 4, 3) := by decide +kernel
theorem d_Picker_picks_212 : decode prog_8_method_2_code 212 = .ok (.iconst (-1), 1) := by decide +kernel
theorem d_Picker_picks_213 : decode prog_8_method_2_code 213 = .ok (.ireturn, 1) := by decide +kernel
theorem d_Reader_init_0 : decode prog_9_method_1_code 0 = .ok (.aload_n 0, 1) := by decide +kernel
theorem d_Reader_init_1 : decode prog_9_method_1_code 1 = .ok (.invokespecial 3, 3) := by decide +kernel
theorem d_Reader_init_4 : decode prog_9_method_1_code 4 = .ok (.aload_n 0, 1) := by decide +kernel
theorem d_Reader_init_5 : decode prog_9_method_1_code 5 = .ok (.bipush 120, 2) := by decide +kernel
theorem d_Reader_init_7 : decode prog_9_method_1_code 7 = .ok (.newarray .int, 2) := by decide +kernel
theorem d_Reader_init_9 : decode prog_9_method_1_code 9 = .ok (.putfield 9, 3) := by decide +kernel
theorem d_Reader_init_12 : decode prog_9_method_1_code 12 = .ok (.aload_n 0, 1) := by decide +kernel
theorem d_Reader_init_13 : decode prog_9_method_1_code 13 = .ok (.iconst 0, 1) := by decide +kernel
theorem d_Reader_init_14 : decode prog_9_method_1_code 14 = .ok (.putfield 13, 3) := by decide +kernel
theorem d_Reader_init_17 : decode prog_9_method_1_code 17 = .ok (.aload_n 0, 1) := by decide +kernel
theorem d_Reader_init_18 : decode prog_9_method_1_code 18 = .ok (.iconst 0, 1) := by decide +kernel
theorem d_Reader_init_19 : decode prog_9_method_1_code 19 = .ok (.putfield 17, 3) := by decide +kernel
theorem d_Reader_init_22 : decode prog_9_method_1_code 22 = .ok (.aload_n 0, 1) := by decide +kernel
theorem d_Reader_init_23 : decode prog_9_method_1_code 23 = .ok (.bipush 121, 2) := by decide +kernel
theorem d_Reader_init_25 : decode prog_9_method_1_code 25 = .ok (.newarray .int, 2) := by decide +kernel
theorem d_Reader_init_27 : decode prog_9_method_1_code 27 = .ok (.putfield 20, 3) := by decide +kernel
theorem d_Reader_init_30 : decode prog_9_method_1_code 30 = .ok (.aload_n 0, 1) := by decide +kernel
theorem d_Reader_init_31 : decode prog_9_method_1_code 31 = .ok (.bipush 121, 2) := by decide +kernel
theorem d_Reader_init_33 : decode prog_9_method_1_code 33 = .ok (.newarray .int, 2) := by decide +kernel
theorem d_Reader_init_35 : decode prog_9_method_1_code 35 = .ok (.putfield 23, 3) := by decide +kernel
theorem d_Reader_init_38 : decode prog_9_method_1_code 38 = .ok (.aload_n 0, 1) := by decide +kernel
theorem d_Reader_init_39 : decode prog_9_method_1_code 39 = .ok (.iconst 0, 1) := by decide +kernel
theorem d_Reader_init_40 : decode prog_9_method_1_code 40 = .ok (.putfield 26, 3) := by decide +kernel
theorem d_Reader_init_43 : decode prog_9_method_1_code 43 = .ok (.return_, 1) := by decide +kernel
theorem d_Reader_isFull_0 : decode prog_9_method_2_code 0 = .ok (.aload_n 0, 1) := by decide +kernel
theorem d_Reader_isFull_1 : decode prog_9_method_2_code 1 = .ok (.getfield 13, 3) := by decide +kernel
theorem d_Reader_isFull_4 : decode prog_9_method_2_code 4 = .ok (.bipush 120, 2) := by decide +kernel
theorem d_Reader_isFull_6 : decode prog_9_method_2_code 6 = .ok (.if_icmp .lt 7, 3) := by decide +kernel
theorem d_Reader_isFull_9 : decode prog_9_method_2_code 9 = .ok (.iconst 1, 1) := by decide +kernel
theorem d_Reader_isFull_10 : decode prog_9_method_2_code 10 = .ok (.goto 4, 3) := by decide +kernel
theorem d_Reader_isFull_13 : decode prog_9_method_2_code 13 = .ok (.iconst 0, 1) := by decide +kernel
theorem d_Reader_isFull_14 : decode prog_9_method_2_code 14 = .ok (.ireturn, 1) := by decide +kernel
theorem d_Reader_size_0 : decode prog_9_method_3_code 0 = .ok (.aload_n 0, 1) := by decide +kernel
theorem d_Reader_size_1 : decode prog_9_method_3_code 1 = .ok (.getfield 13, 3) := by decide +kernel
theorem d_Reader_size_4 : decode prog_9_method_3_code 4 = .ok (.ireturn, 1) := by decide +kernel
theorem d_Reader_takes_0 : decode prog_9_method_4_code 0 = .ok (.aload_n 0, 1) := by decide +kernel
theorem d_Reader_takes_1 : decode prog_9_method_4_code 1 = .ok (.getfield 13, 3) := by decide +kernel
theorem d_Reader_takes_4 : decode prog_9_method_4_code 4 = .ok (.bipush 120, 2) := by decide +kernel
theorem d_Reader_takes_6 : decode prog_9_method_4_code 6 = .ok (.if_icmp .ge 23, 3) := by decide +kernel
theorem d_Reader_takes_9 : decode prog_9_method_4_code 9 = .ok (.aload_n 0, 1) := by decide +kernel
theorem d_Reader_takes_10 : decode prog_9_method_4_code 10 = .ok (.getfield 9, 3) := by decide +kernel
theorem d_Reader_takes_13 : decode prog_9_method_4_code 13 = .ok (.aload_n 0, 1) := by decide +kernel
theorem d_Reader_takes_14 : decode prog_9_method_4_code 14 = .ok (.getfield 13, 3) := by decide +kernel
theorem d_Reader_takes_17 : decode prog_9_method_4_code 17 = .ok (.iload_n 1, 1) := by decide +kernel
theorem d_Reader_takes_18 : decode prog_9_method_4_code 18 = .ok (.iastore, 1) := by decide +kernel
theorem d_Reader_takes_19 : decode prog_9_method_4_code 19 = .ok (.aload_n 0, 1) := by decide +kernel
theorem d_Reader_takes_20 : decode prog_9_method_4_code 20 = .ok (.dup, 1) := by decide +kernel
theorem d_Reader_takes_21 : decode prog_9_method_4_code 21 = .ok (.getfield 13, 3) := by decide +kernel
theorem d_Reader_takes_24 : decode prog_9_method_4_code 24 = .ok (.iconst 1, 1) := by decide +kernel
theorem d_Reader_takes_25 : decode prog_9_method_4_code 25 = .ok (.iadd, 1) := by decide +kernel
theorem d_Reader_takes_26 : decode prog_9_method_4_code 26 = .ok (.putfield 13, 3) := by decide +kernel
theorem d_Reader_takes_29 : decode prog_9_method_4_code 29 = .ok (.aload_n 0, 1) := by decide +kernel
theorem d_Reader_takes_30 : decode prog_9_method_4_code 30 = .ok (.getfield 13, 3) := by decide +kernel
theorem d_Reader_takes_33 : decode prog_9_method_4_code 33 = .ok (.ireturn, 1) := by decide +kernel
theorem d_Reader_clears_0 : decode prog_9_method_5_code 0 = .ok (.aload_n 0, 1) := by decide +kernel
theorem d_Reader_clears_1 : decode prog_9_method_5_code 1 = .ok (.iconst 0, 1) := by decide +kernel
theorem d_Reader_clears_2 : decode prog_9_method_5_code 2 = .ok (.putfield 13, 3) := by decide +kernel
theorem d_Reader_clears_5 : decode prog_9_method_5_code 5 = .ok (.return_, 1) := by decide +kernel
theorem d_Reader_faultOfText_0 : decode prog_9_method_6_code 0 = .ok (.aload_n 0, 1) := by decide +kernel
theorem d_Reader_faultOfText_1 : decode prog_9_method_6_code 1 = .ok (.iconst 0, 1) := by decide +kernel
theorem d_Reader_faultOfText_2 : decode prog_9_method_6_code 2 = .ok (.putfield 17, 3) := by decide +kernel
theorem d_Reader_faultOfText_5 : decode prog_9_method_6_code 5 = .ok (.aload_n 0, 1) := by decide +kernel
theorem d_Reader_faultOfText_6 : decode prog_9_method_6_code 6 = .ok (.iconst 0, 1) := by decide +kernel
theorem d_Reader_faultOfText_7 : decode prog_9_method_6_code 7 = .ok (.putfield 26, 3) := by decide +kernel
theorem d_Reader_faultOfText_10 : decode prog_9_method_6_code 10 = .ok (.iconst 0, 1) := by decide +kernel
theorem d_Reader_faultOfText_11 : decode prog_9_method_6_code 11 = .ok (.istore_n 1, 1) := by decide +kernel
theorem d_Reader_faultOfText_12 : decode prog_9_method_6_code 12 = .ok (.iload_n 1, 1) := by decide +kernel
theorem d_Reader_faultOfText_13 : decode prog_9_method_6_code 13 = .ok (.bipush 120, 2) := by decide +kernel
theorem d_Reader_faultOfText_15 : decode prog_9_method_6_code 15 = .ok (.if_icmp .gt 58, 3) := by decide +kernel
theorem d_Reader_faultOfText_18 : decode prog_9_method_6_code 18 = .ok (.aload_n 0, 1) := by decide +kernel
theorem d_Reader_faultOfText_19 : decode prog_9_method_6_code 19 = .ok (.invokevirtual 29, 3) := by decide +kernel
theorem d_Reader_faultOfText_22 : decode prog_9_method_6_code 22 = .ok (.ifCond .ne 8, 3) := by decide +kernel
theorem d_Reader_faultOfText_25 : decode prog_9_method_6_code 25 = .ok (.aload_n 0, 1) := by decide +kernel
theorem d_Reader_faultOfText_26 : decode prog_9_method_6_code 26 = .ok (.getfield 17, 3) := by decide +kernel
theorem d_Reader_faultOfText_29 : decode prog_9_method_6_code 29 = .ok (.ireturn, 1) := by decide +kernel
theorem d_Reader_faultOfText_30 : decode prog_9_method_6_code 30 = .ok (.aload_n 0, 1) := by decide +kernel
theorem d_Reader_faultOfText_31 : decode prog_9_method_6_code 31 = .ok (.getfield 17, 3) := by decide +kernel
theorem d_Reader_faultOfText_34 : decode prog_9_method_6_code 34 = .ok (.aload_n 0, 1) := by decide +kernel
theorem d_Reader_faultOfText_35 : decode prog_9_method_6_code 35 = .ok (.getfield 13, 3) := by decide +kernel
theorem d_Reader_faultOfText_38 : decode prog_9_method_6_code 38 = .ok (.if_icmp .lt 5, 3) := by decide +kernel
theorem d_Reader_faultOfText_41 : decode prog_9_method_6_code 41 = .ok (.iconst (-1), 1) := by decide +kernel
theorem d_Reader_faultOfText_42 : decode prog_9_method_6_code 42 = .ok (.ireturn, 1) := by decide +kernel
theorem d_Reader_faultOfText_43 : decode prog_9_method_6_code 43 = .ok (.aload_n 0, 1) := by decide +kernel
theorem d_Reader_faultOfText_44 : decode prog_9_method_6_code 44 = .ok (.invokevirtual 33, 3) := by decide +kernel
theorem d_Reader_faultOfText_47 : decode prog_9_method_6_code 47 = .ok (.bipush 59, 2) := by decide +kernel
theorem d_Reader_faultOfText_49 : decode prog_9_method_6_code 49 = .ok (.if_icmp .eq 8, 3) := by decide +kernel
theorem d_Reader_faultOfText_52 : decode prog_9_method_6_code 52 = .ok (.aload_n 0, 1) := by decide +kernel
theorem d_Reader_faultOfText_53 : decode prog_9_method_6_code 53 = .ok (.getfield 17, 3) := by decide +kernel
theorem d_Reader_faultOfText_56 : decode prog_9_method_6_code 56 = .ok (.ireturn, 1) := by decide +kernel
theorem d_Reader_faultOfText_57 : decode prog_9_method_6_code 57 = .ok (.aload_n 0, 1) := by decide +kernel
theorem d_Reader_faultOfText_58 : decode prog_9_method_6_code 58 = .ok (.dup, 1) := by decide +kernel
theorem d_Reader_faultOfText_59 : decode prog_9_method_6_code 59 = .ok (.getfield 17, 3) := by decide +kernel
theorem d_Reader_faultOfText_62 : decode prog_9_method_6_code 62 = .ok (.iconst 1, 1) := by decide +kernel
theorem d_Reader_faultOfText_63 : decode prog_9_method_6_code 63 = .ok (.iadd, 1) := by decide +kernel
theorem d_Reader_faultOfText_64 : decode prog_9_method_6_code 64 = .ok (.putfield 17, 3) := by decide +kernel
theorem d_Reader_faultOfText_67 : decode prog_9_method_6_code 67 = .ok (.iinc 1 1, 3) := by decide +kernel
theorem d_Reader_faultOfText_70 : decode prog_9_method_6_code 70 = .ok (.goto (-58), 3) := by decide +kernel
theorem d_Reader_faultOfText_73 : decode prog_9_method_6_code 73 = .ok (.aload_n 0, 1) := by decide +kernel
theorem d_Reader_faultOfText_74 : decode prog_9_method_6_code 74 = .ok (.getfield 17, 3) := by decide +kernel
theorem d_Reader_faultOfText_77 : decode prog_9_method_6_code 77 = .ok (.ireturn, 1) := by decide +kernel
theorem d_Reader_copySteps_0 : decode prog_9_method_7_code 0 = .ok (.aload_n 0, 1) := by decide +kernel
theorem d_Reader_copySteps_1 : decode prog_9_method_7_code 1 = .ok (.getfield 26, 3) := by decide +kernel
theorem d_Reader_copySteps_4 : decode prog_9_method_7_code 4 = .ok (.aload_n 1, 1) := by decide +kernel
theorem d_Reader_copySteps_5 : decode prog_9_method_7_code 5 = .ok (.arraylength, 1) := by decide +kernel
theorem d_Reader_copySteps_6 : decode prog_9_method_7_code 6 = .ok (.aload_n 2, 1) := by decide +kernel
theorem d_Reader_copySteps_7 : decode prog_9_method_7_code 7 = .ok (.arraylength, 1) := by decide +kernel
theorem d_Reader_copySteps_8 : decode prog_9_method_7_code 8 = .ok (.invokestatic 37, 3) := by decide +kernel
theorem d_Reader_copySteps_11 : decode prog_9_method_7_code 11 = .ok (.invokestatic 37, 3) := by decide +kernel
theorem d_Reader_copySteps_14 : decode prog_9_method_7_code 14 = .ok (.istore_n 3, 1) := by decide +kernel
theorem d_Reader_copySteps_15 : decode prog_9_method_7_code 15 = .ok (.aload_n 0, 1) := by decide +kernel
theorem d_Reader_copySteps_16 : decode prog_9_method_7_code 16 = .ok (.getfield 20, 3) := by decide +kernel
theorem d_Reader_copySteps_19 : decode prog_9_method_7_code 19 = .ok (.iconst 0, 1) := by decide +kernel
theorem d_Reader_copySteps_20 : decode prog_9_method_7_code 20 = .ok (.aload_n 1, 1) := by decide +kernel
theorem d_Reader_copySteps_21 : decode prog_9_method_7_code 21 = .ok (.iconst 0, 1) := by decide +kernel
theorem d_Reader_copySteps_22 : decode prog_9_method_7_code 22 = .ok (.iload_n 3, 1) := by decide +kernel
theorem d_Reader_copySteps_23 : decode prog_9_method_7_code 23 = .ok (.invokestatic 43, 3) := by decide +kernel
theorem d_Reader_copySteps_26 : decode prog_9_method_7_code 26 = .ok (.aload_n 0, 1) := by decide +kernel
theorem d_Reader_copySteps_27 : decode prog_9_method_7_code 27 = .ok (.getfield 23, 3) := by decide +kernel
theorem d_Reader_copySteps_30 : decode prog_9_method_7_code 30 = .ok (.iconst 0, 1) := by decide +kernel
theorem d_Reader_copySteps_31 : decode prog_9_method_7_code 31 = .ok (.aload_n 2, 1) := by decide +kernel
theorem d_Reader_copySteps_32 : decode prog_9_method_7_code 32 = .ok (.iconst 0, 1) := by decide +kernel
theorem d_Reader_copySteps_33 : decode prog_9_method_7_code 33 = .ok (.iload_n 3, 1) := by decide +kernel
theorem d_Reader_copySteps_34 : decode prog_9_method_7_code 34 = .ok (.invokestatic 43, 3) := by decide +kernel
theorem d_Reader_copySteps_37 : decode prog_9_method_7_code 37 = .ok (.iload_n 3, 1) := by decide +kernel
theorem d_Reader_copySteps_38 : decode prog_9_method_7_code 38 = .ok (.ireturn, 1) := by decide +kernel
theorem d_Reader_reads_0 : decode prog_9_method_8_code 0 = .ok (.aload_n 0, 1) := by decide +kernel
theorem d_Reader_reads_1 : decode prog_9_method_8_code 1 = .ok (.iconst 0, 1) := by decide +kernel
theorem d_Reader_reads_2 : decode prog_9_method_8_code 2 = .ok (.iconst 0, 1) := by decide +kernel
theorem d_Reader_reads_3 : decode prog_9_method_8_code 3 = .ok (.invokevirtual 49, 3) := by decide +kernel
theorem d_Reader_reads_6 : decode prog_9_method_8_code 6 = .ok (.ifCond .ne 5, 3) := by decide +kernel
theorem d_Reader_reads_9 : decode prog_9_method_8_code 9 = .ok (.iconst 0, 1) := by decide +kernel
theorem d_Reader_reads_10 : decode prog_9_method_8_code 10 = .ok (.ireturn, 1) := by decide +kernel
theorem d_Reader_reads_11 : decode prog_9_method_8_code 11 = .ok (.aload_n 0, 1) := by decide +kernel
theorem d_Reader_reads_12 : decode prog_9_method_8_code 12 = .ok (.invokevirtual 33, 3) := by decide +kernel
theorem d_Reader_reads_15 : decode prog_9_method_8_code 15 = .ok (.bipush 63, 2) := by decide +kernel
theorem d_Reader_reads_17 : decode prog_9_method_8_code 17 = .ok (.if_icmp .ne 61, 3) := by decide +kernel
theorem d_Reader_reads_20 : decode prog_9_method_8_code 20 = .ok (.aload_n 0, 1) := by decide +kernel
theorem d_Reader_reads_21 : decode prog_9_method_8_code 21 = .ok (.dup, 1) := by decide +kernel
theorem d_Reader_reads_22 : decode prog_9_method_8_code 22 = .ok (.getfield 17, 3) := by decide +kernel
theorem d_Reader_reads_25 : decode prog_9_method_8_code 25 = .ok (.iconst 1, 1) := by decide +kernel
theorem d_Reader_reads_26 : decode prog_9_method_8_code 26 = .ok (.iadd, 1) := by decide +kernel
theorem d_Reader_reads_27 : decode prog_9_method_8_code 27 = .ok (.putfield 17, 3) := by decide +kernel
theorem d_Reader_reads_30 : decode prog_9_method_8_code 30 = .ok (.aload_n 0, 1) := by decide +kernel
theorem d_Reader_reads_31 : decode prog_9_method_8_code 31 = .ok (.getfield 26, 3) := by decide +kernel
theorem d_Reader_reads_34 : decode prog_9_method_8_code 34 = .ok (.istore_n 1, 1) := by decide +kernel
theorem d_Reader_reads_35 : decode prog_9_method_8_code 35 = .ok (.aload_n 0, 1) := by decide +kernel
theorem d_Reader_reads_36 : decode prog_9_method_8_code 36 = .ok (.bipush 63, 2) := by decide +kernel
theorem d_Reader_reads_38 : decode prog_9_method_8_code 38 = .ok (.iconst 0, 1) := by decide +kernel
theorem d_Reader_reads_39 : decode prog_9_method_8_code 39 = .ok (.invokevirtual 53, 3) := by decide +kernel
theorem d_Reader_reads_42 : decode prog_9_method_8_code 42 = .ok (.aload_n 0, 1) := by decide +kernel
theorem d_Reader_reads_43 : decode prog_9_method_8_code 43 = .ok (.iconst 0, 1) := by decide +kernel
theorem d_Reader_reads_44 : decode prog_9_method_8_code 44 = .ok (.iconst 0, 1) := by decide +kernel
theorem d_Reader_reads_45 : decode prog_9_method_8_code 45 = .ok (.invokevirtual 49, 3) := by decide +kernel
theorem d_Reader_reads_48 : decode prog_9_method_8_code 48 = .ok (.ifCond .ne 5, 3) := by decide +kernel
theorem d_Reader_reads_51 : decode prog_9_method_8_code 51 = .ok (.iconst 0, 1) := by decide +kernel
theorem d_Reader_reads_52 : decode prog_9_method_8_code 52 = .ok (.ireturn, 1) := by decide +kernel
theorem d_Reader_reads_53 : decode prog_9_method_8_code 53 = .ok (.aload_n 0, 1) := by decide +kernel
theorem d_Reader_reads_54 : decode prog_9_method_8_code 54 = .ok (.bipush 59, 2) := by decide +kernel
theorem d_Reader_reads_56 : decode prog_9_method_8_code 56 = .ok (.iconst 0, 1) := by decide +kernel
theorem d_Reader_reads_57 : decode prog_9_method_8_code 57 = .ok (.invokevirtual 53, 3) := by decide +kernel
theorem d_Reader_reads_60 : decode prog_9_method_8_code 60 = .ok (.iload_n 1, 1) := by decide +kernel
theorem d_Reader_reads_61 : decode prog_9_method_8_code 61 = .ok (.bipush 121, 2) := by decide +kernel
theorem d_Reader_reads_63 : decode prog_9_method_8_code 63 = .ok (.if_icmp .ge 13, 3) := by decide +kernel
theorem d_Reader_reads_66 : decode prog_9_method_8_code 66 = .ok (.aload_n 0, 1) := by decide +kernel
theorem d_Reader_reads_67 : decode prog_9_method_8_code 67 = .ok (.getfield 23, 3) := by decide +kernel
theorem d_Reader_reads_70 : decode prog_9_method_8_code 70 = .ok (.iload_n 1, 1) := by decide +kernel
theorem d_Reader_reads_71 : decode prog_9_method_8_code 71 = .ok (.aload_n 0, 1) := by decide +kernel
theorem d_Reader_reads_72 : decode prog_9_method_8_code 72 = .ok (.getfield 26, 3) := by decide +kernel
theorem d_Reader_reads_75 : decode prog_9_method_8_code 75 = .ok (.iastore, 1) := by decide +kernel
theorem d_Reader_reads_76 : decode prog_9_method_8_code 76 = .ok (.iconst 1, 1) := by decide +kernel
theorem d_Reader_reads_77 : decode prog_9_method_8_code 77 = .ok (.ireturn, 1) := by decide +kernel
theorem d_Reader_reads_78 : decode prog_9_method_8_code 78 = .ok (.aload_n 0, 1) := by decide +kernel
theorem d_Reader_reads_79 : decode prog_9_method_8_code 79 = .ok (.bipush 59, 2) := by decide +kernel
theorem d_Reader_reads_81 : decode prog_9_method_8_code 81 = .ok (.iconst 0, 1) := by decide +kernel
theorem d_Reader_reads_82 : decode prog_9_method_8_code 82 = .ok (.invokevirtual 53, 3) := by decide +kernel
theorem d_Reader_reads_85 : decode prog_9_method_8_code 85 = .ok (.iconst 1, 1) := by decide +kernel
theorem d_Reader_reads_86 : decode prog_9_method_8_code 86 = .ok (.ireturn, 1) := by decide +kernel
theorem d_Reader_layer_0 : decode prog_9_method_9_code 0 = .ok (.iload_n 1, 1) := by decide +kernel
theorem d_Reader_layer_1 : decode prog_9_method_9_code 1 = .ok (.iconst 5, 1) := by decide +kernel
theorem d_Reader_layer_2 : decode prog_9_method_9_code 2 = .ok (.if_icmp .lt 9, 3) := by decide +kernel
theorem d_Reader_layer_5 : decode prog_9_method_9_code 5 = .ok (.aload_n 0, 1) := by decide +kernel
theorem d_Reader_layer_6 : decode prog_9_method_9_code 6 = .ok (.iload_n 2, 1) := by decide +kernel
theorem d_Reader_layer_7 : decode prog_9_method_9_code 7 = .ok (.invokevirtual 57, 3) := by decide +kernel
theorem d_Reader_layer_10 : decode prog_9_method_9_code 10 = .ok (.ireturn, 1) := by decide +kernel
theorem d_Reader_layer_11 : decode prog_9_method_9_code 11 = .ok (.aload_n 0, 1) := by decide +kernel
theorem d_Reader_layer_12 : decode prog_9_method_9_code 12 = .ok (.iload_n 1, 1) := by decide +kernel
theorem d_Reader_layer_13 : decode prog_9_method_9_code 13 = .ok (.iconst 1, 1) := by decide +kernel
theorem d_Reader_layer_14 : decode prog_9_method_9_code 14 = .ok (.iadd, 1) := by decide +kernel
theorem d_Reader_layer_15 : decode prog_9_method_9_code 15 = .ok (.iload_n 2, 1) := by decide +kernel
theorem d_Reader_layer_16 : decode prog_9_method_9_code 16 = .ok (.invokevirtual 49, 3) := by decide +kernel
theorem d_Reader_layer_19 : decode prog_9_method_9_code 19 = .ok (.ifCond .ne 5, 3) := by decide +kernel
theorem d_Reader_layer_22 : decode prog_9_method_9_code 22 = .ok (.iconst 0, 1) := by decide +kernel
theorem d_Reader_layer_23 : decode prog_9_method_9_code 23 = .ok (.ireturn, 1) := by decide +kernel
theorem d_Reader_layer_24 : decode prog_9_method_9_code 24 = .ok (.iconst 0, 1) := by decide +kernel
theorem d_Reader_layer_25 : decode prog_9_method_9_code 25 = .ok (.istore_n 3, 1) := by decide +kernel
theorem d_Reader_layer_26 : decode prog_9_method_9_code 26 = .ok (.iload_n 3, 1) := by decide +kernel
theorem d_Reader_layer_27 : decode prog_9_method_9_code 27 = .ok (.bipush 120, 2) := by decide +kernel
theorem d_Reader_layer_29 : decode prog_9_method_9_code 29 = .ok (.if_icmp .ge 77, 3) := by decide +kernel
theorem d_Reader_layer_32 : decode prog_9_method_9_code 32 = .ok (.aload_n 0, 1) := by decide +kernel
theorem d_Reader_layer_33 : decode prog_9_method_9_code 33 = .ok (.invokevirtual 33, 3) := by decide +kernel
theorem d_Reader_layer_36 : decode prog_9_method_9_code 36 = .ok (.istore 4, 2) := by decide +kernel
theorem d_Reader_layer_38 : decode prog_9_method_9_code 38 = .ok (.iload_n 1, 1) := by decide +kernel
theorem d_Reader_layer_39 : decode prog_9_method_9_code 39 = .ok (.iconst 2, 1) := by decide +kernel
theorem d_Reader_layer_40 : decode prog_9_method_9_code 40 = .ok (.if_icmp .ne 11, 3) := by decide +kernel
theorem d_Reader_layer_43 : decode prog_9_method_9_code 43 = .ok (.iload_n 3, 1) := by decide +kernel
theorem d_Reader_layer_44 : decode prog_9_method_9_code 44 = .ok (.ifCond .le 7, 3) := by decide +kernel
theorem d_Reader_layer_47 : decode prog_9_method_9_code 47 = .ok (.iconst 1, 1) := by decide +kernel
theorem d_Reader_layer_48 : decode prog_9_method_9_code 48 = .ok (.goto 4, 3) := by decide +kernel
theorem d_Reader_layer_51 : decode prog_9_method_9_code 51 = .ok (.iconst 0, 1) := by decide +kernel
theorem d_Reader_layer_52 : decode prog_9_method_9_code 52 = .ok (.istore 5, 2) := by decide +kernel
theorem d_Reader_layer_54 : decode prog_9_method_9_code 54 = .ok (.iload 4, 2) := by decide +kernel
theorem d_Reader_layer_56 : decode prog_9_method_9_code 56 = .ok (.invokestatic 61, 3) := by decide +kernel
theorem d_Reader_layer_59 : decode prog_9_method_9_code 59 = .ok (.iload_n 1, 1) := by decide +kernel
theorem d_Reader_layer_60 : decode prog_9_method_9_code 60 = .ok (.if_icmp .ne 8, 3) := by decide +kernel
theorem d_Reader_layer_63 : decode prog_9_method_9_code 63 = .ok (.iload 5, 2) := by decide +kernel
theorem d_Reader_layer_65 : decode prog_9_method_9_code 65 = .ok (.ifCond .eq 5, 3) := by decide +kernel
theorem d_Reader_layer_68 : decode prog_9_method_9_code 68 = .ok (.iconst 1, 1) := by decide +kernel
theorem d_Reader_layer_69 : decode prog_9_method_9_code 69 = .ok (.ireturn, 1) := by decide +kernel
theorem d_Reader_layer_70 : decode prog_9_method_9_code 70 = .ok (.aload_n 0, 1) := by decide +kernel
theorem d_Reader_layer_71 : decode prog_9_method_9_code 71 = .ok (.dup, 1) := by decide +kernel
theorem d_Reader_layer_72 : decode prog_9_method_9_code 72 = .ok (.getfield 17, 3) := by decide +kernel
theorem d_Reader_layer_75 : decode prog_9_method_9_code 75 = .ok (.iconst 1, 1) := by decide +kernel
theorem d_Reader_layer_76 : decode prog_9_method_9_code 76 = .ok (.iadd, 1) := by decide +kernel
theorem d_Reader_layer_77 : decode prog_9_method_9_code 77 = .ok (.putfield 17, 3) := by decide +kernel
theorem d_Reader_layer_80 : decode prog_9_method_9_code 80 = .ok (.aload_n 0, 1) := by decide +kernel
theorem d_Reader_layer_81 : decode prog_9_method_9_code 81 = .ok (.iload_n 1, 1) := by decide +kernel
theorem d_Reader_layer_82 : decode prog_9_method_9_code 82 = .ok (.iconst 1, 1) := by decide +kernel
theorem d_Reader_layer_83 : decode prog_9_method_9_code 83 = .ok (.iadd, 1) := by decide +kernel
theorem d_Reader_layer_84 : decode prog_9_method_9_code 84 = .ok (.iload_n 2, 1) := by decide +kernel
theorem d_Reader_layer_85 : decode prog_9_method_9_code 85 = .ok (.invokevirtual 49, 3) := by decide +kernel
theorem d_Reader_layer_88 : decode prog_9_method_9_code 88 = .ok (.ifCond .ne 5, 3) := by decide +kernel
theorem d_Reader_layer_91 : decode prog_9_method_9_code 91 = .ok (.iconst 0, 1) := by decide +kernel
theorem d_Reader_layer_92 : decode prog_9_method_9_code 92 = .ok (.ireturn, 1) := by decide +kernel
theorem d_Reader_layer_93 : decode prog_9_method_9_code 93 = .ok (.aload_n 0, 1) := by decide +kernel
theorem d_Reader_layer_94 : decode prog_9_method_9_code 94 = .ok (.iload 4, 2) := by decide +kernel
theorem d_Reader_layer_96 : decode prog_9_method_9_code 96 = .ok (.iconst 0, 1) := by decide +kernel
theorem d_Reader_layer_97 : decode prog_9_method_9_code 97 = .ok (.invokevirtual 53, 3) := by decide +kernel
theorem d_Reader_layer_100 : decode prog_9_method_9_code 100 = .ok (.iinc 3 1, 3) := by decide +kernel
theorem d_Reader_layer_103 : decode prog_9_method_9_code 103 = .ok (.goto (-77), 3) := by decide +kernel
theorem d_Reader_layer_106 : decode prog_9_method_9_code 106 = .ok (.iconst 1, 1) := by decide +kernel
theorem d_Reader_layer_107 : decode prog_9_method_9_code 107 = .ok (.ireturn, 1) := by decide +kernel
theorem d_Reader_operand_0 : decode prog_9_method_10_code 0 = .ok (.aload_n 0, 1) := by decide +kernel
theorem d_Reader_operand_1 : decode prog_9_method_10_code 1 = .ok (.invokevirtual 33, 3) := by decide +kernel
theorem d_Reader_operand_4 : decode prog_9_method_10_code 4 = .ok (.istore_n 2, 1) := by decide +kernel
theorem d_Reader_operand_5 : decode prog_9_method_10_code 5 = .ok (.iload_n 2, 1) := by decide +kernel
theorem d_Reader_operand_6 : decode prog_9_method_10_code 6 = .ok (.invokestatic 65, 3) := by decide +kernel
theorem d_Reader_operand_9 : decode prog_9_method_10_code 9 = .ok (.ifCond .eq 8, 3) := by decide +kernel
theorem d_Reader_operand_12 : decode prog_9_method_10_code 12 = .ok (.aload_n 0, 1) := by decide +kernel
theorem d_Reader_operand_13 : decode prog_9_method_10_code 13 = .ok (.invokevirtual 68, 3) := by decide +kernel
theorem d_Reader_operand_16 : decode prog_9_method_10_code 16 = .ok (.ireturn, 1) := by decide +kernel
theorem d_Reader_operand_17 : decode prog_9_method_10_code 17 = .ok (.iload_n 2, 1) := by decide +kernel
theorem d_Reader_operand_18 : decode prog_9_method_10_code 18 = .ok (.invokestatic 71, 3) := by decide +kernel
theorem d_Reader_operand_21 : decode prog_9_method_10_code 21 = .ok (.ifCond .eq 21, 3) := by decide +kernel
theorem d_Reader_operand_24 : decode prog_9_method_10_code 24 = .ok (.aload_n 0, 1) := by decide +kernel
theorem d_Reader_operand_25 : decode prog_9_method_10_code 25 = .ok (.dup, 1) := by decide +kernel
theorem d_Reader_operand_26 : decode prog_9_method_10_code 26 = .ok (.getfield 17, 3) := by decide +kernel
theorem d_Reader_operand_29 : decode prog_9_method_10_code 29 = .ok (.iconst 1, 1) := by decide +kernel
theorem d_Reader_operand_30 : decode prog_9_method_10_code 30 = .ok (.iadd, 1) := by decide +kernel
theorem d_Reader_operand_31 : decode prog_9_method_10_code 31 = .ok (.putfield 17, 3) := by decide +kernel
theorem d_Reader_operand_34 : decode prog_9_method_10_code 34 = .ok (.aload_n 0, 1) := by decide +kernel
theorem d_Reader_operand_35 : decode prog_9_method_10_code 35 = .ok (.iload_n 2, 1) := by decide +kernel
theorem d_Reader_operand_36 : decode prog_9_method_10_code 36 = .ok (.iconst 0, 1) := by decide +kernel
theorem d_Reader_operand_37 : decode prog_9_method_10_code 37 = .ok (.invokevirtual 53, 3) := by decide +kernel
theorem d_Reader_operand_40 : decode prog_9_method_10_code 40 = .ok (.iconst 1, 1) := by decide +kernel
theorem d_Reader_operand_41 : decode prog_9_method_10_code 41 = .ok (.ireturn, 1) := by decide +kernel
theorem d_Reader_operand_42 : decode prog_9_method_10_code 42 = .ok (.iload_n 1, 1) := by decide +kernel
theorem d_Reader_operand_43 : decode prog_9_method_10_code 43 = .ok (.bipush 6, 2) := by decide +kernel
theorem d_Reader_operand_45 : decode prog_9_method_10_code 45 = .ok (.if_icmp .lt 5, 3) := by decide +kernel
theorem d_Reader_operand_48 : decode prog_9_method_10_code 48 = .ok (.iconst 0, 1) := by decide +kernel
theorem d_Reader_operand_49 : decode prog_9_method_10_code 49 = .ok (.ireturn, 1) := by decide +kernel
theorem d_Reader_operand_50 : decode prog_9_method_10_code 50 = .ok (.iload_n 2, 1) := by decide +kernel
theorem d_Reader_operand_51 : decode prog_9_method_10_code 51 = .ok (.bipush 40, 2) := by decide +kernel
theorem d_Reader_operand_53 : decode prog_9_method_10_code 53 = .ok (.if_icmp .ne 47, 3) := by decide +kernel
theorem d_Reader_operand_56 : decode prog_9_method_10_code 56 = .ok (.aload_n 0, 1) := by decide +kernel
theorem d_Reader_operand_57 : decode prog_9_method_10_code 57 = .ok (.dup, 1) := by decide +kernel
theorem d_Reader_operand_58 : decode prog_9_method_10_code 58 = .ok (.getfield 17, 3) := by decide +kernel
theorem d_Reader_operand_61 : decode prog_9_method_10_code 61 = .ok (.iconst 1, 1) := by decide +kernel
theorem d_Reader_operand_62 : decode prog_9_method_10_code 62 = .ok (.iadd, 1) := by decide +kernel
theorem d_Reader_operand_63 : decode prog_9_method_10_code 63 = .ok (.putfield 17, 3) := by decide +kernel
theorem d_Reader_operand_66 : decode prog_9_method_10_code 66 = .ok (.aload_n 0, 1) := by decide +kernel
theorem d_Reader_operand_67 : decode prog_9_method_10_code 67 = .ok (.iconst 0, 1) := by decide +kernel
theorem d_Reader_operand_68 : decode prog_9_method_10_code 68 = .ok (.iload_n 1, 1) := by decide +kernel
theorem d_Reader_operand_69 : decode prog_9_method_10_code 69 = .ok (.iconst 1, 1) := by decide +kernel
theorem d_Reader_operand_70 : decode prog_9_method_10_code 70 = .ok (.iadd, 1) := by decide +kernel
theorem d_Reader_operand_71 : decode prog_9_method_10_code 71 = .ok (.invokevirtual 49, 3) := by decide +kernel
theorem d_Reader_operand_74 : decode prog_9_method_10_code 74 = .ok (.ifCond .eq 12, 3) := by decide +kernel
theorem d_Reader_operand_77 : decode prog_9_method_10_code 77 = .ok (.aload_n 0, 1) := by decide +kernel
theorem d_Reader_operand_78 : decode prog_9_method_10_code 78 = .ok (.invokevirtual 33, 3) := by decide +kernel
theorem d_Reader_operand_81 : decode prog_9_method_10_code 81 = .ok (.bipush 41, 2) := by decide +kernel
theorem d_Reader_operand_83 : decode prog_9_method_10_code 83 = .ok (.if_icmp .eq 5, 3) := by decide +kernel
theorem d_Reader_operand_86 : decode prog_9_method_10_code 86 = .ok (.iconst 0, 1) := by decide +kernel
theorem d_Reader_operand_87 : decode prog_9_method_10_code 87 = .ok (.ireturn, 1) := by decide +kernel
theorem d_Reader_operand_88 : decode prog_9_method_10_code 88 = .ok (.aload_n 0, 1) := by decide +kernel
theorem d_Reader_operand_89 : decode prog_9_method_10_code 89 = .ok (.dup, 1) := by decide +kernel
theorem d_Reader_operand_90 : decode prog_9_method_10_code 90 = .ok (.getfield 17, 3) := by decide +kernel
theorem d_Reader_operand_93 : decode prog_9_method_10_code 93 = .ok (.iconst 1, 1) := by decide +kernel
theorem d_Reader_operand_94 : decode prog_9_method_10_code 94 = .ok (.iadd, 1) := by decide +kernel
theorem d_Reader_operand_95 : decode prog_9_method_10_code 95 = .ok (.putfield 17, 3) := by decide +kernel
theorem d_Reader_operand_98 : decode prog_9_method_10_code 98 = .ok (.iconst 1, 1) := by decide +kernel
theorem d_Reader_operand_99 : decode prog_9_method_10_code 99 = .ok (.ireturn, 1) := by decide +kernel
theorem d_Reader_operand_100 : decode prog_9_method_10_code 100 = .ok (.iload_n 2, 1) := by decide +kernel
theorem d_Reader_operand_101 : decode prog_9_method_10_code 101 = .ok (.bipush 33, 2) := by decide +kernel
theorem d_Reader_operand_103 : decode prog_9_method_10_code 103 = .ok (.if_icmp .eq 11, 3) := by decide +kernel
theorem d_Reader_operand_106 : decode prog_9_method_10_code 106 = .ok (.iload_n 2, 1) := by decide +kernel
theorem d_Reader_operand_107 : decode prog_9_method_10_code 107 = .ok (.bipush 45, 2) := by decide +kernel
theorem d_Reader_operand_109 : decode prog_9_method_10_code 109 = .ok (.if_icmp .eq 5, 3) := by decide +kernel
theorem d_Reader_operand_112 : decode prog_9_method_10_code 112 = .ok (.iconst 0, 1) := by decide +kernel
theorem d_Reader_operand_113 : decode prog_9_method_10_code 113 = .ok (.ireturn, 1) := by decide +kernel
theorem d_Reader_operand_114 : decode prog_9_method_10_code 114 = .ok (.aload_n 0, 1) := by decide +kernel
theorem d_Reader_operand_115 : decode prog_9_method_10_code 115 = .ok (.dup, 1) := by decide +kernel
theorem d_Reader_operand_116 : decode prog_9_method_10_code 116 = .ok (.getfield 17, 3) := by decide +kernel
theorem d_Reader_operand_119 : decode prog_9_method_10_code 119 = .ok (.iconst 1, 1) := by decide +kernel
theorem d_Reader_operand_120 : decode prog_9_method_10_code 120 = .ok (.iadd, 1) := by decide +kernel
theorem d_Reader_operand_121 : decode prog_9_method_10_code 121 = .ok (.putfield 17, 3) := by decide +kernel
theorem d_Reader_operand_124 : decode prog_9_method_10_code 124 = .ok (.aload_n 0, 1) := by decide +kernel
theorem d_Reader_operand_125 : decode prog_9_method_10_code 125 = .ok (.iload_n 1, 1) := by decide +kernel
theorem d_Reader_operand_126 : decode prog_9_method_10_code 126 = .ok (.iconst 1, 1) := by decide +kernel
theorem d_Reader_operand_127 : decode prog_9_method_10_code 127 = .ok (.iadd, 1) := by decide +kernel
theorem d_Reader_operand_128 : decode prog_9_method_10_code 128 = .ok (.invokevirtual 57, 3) := by decide +kernel
theorem d_Reader_operand_131 : decode prog_9_method_10_code 131 = .ok (.ifCond .ne 5, 3) := by decide +kernel
theorem d_Reader_operand_134 : decode prog_9_method_10_code 134 = .ok (.iconst 0, 1) := by decide +kernel
theorem d_Reader_operand_135 : decode prog_9_method_10_code 135 = .ok (.ireturn, 1) := by decide +kernel
theorem d_Reader_operand_136 : decode prog_9_method_10_code 136 = .ok (.aload_n 0, 1) := by decide +kernel
theorem d_Reader_operand_137 : decode prog_9_method_10_code 137 = .ok (.iload_n 2, 1) := by decide +kernel
theorem d_Reader_operand_138 : decode prog_9_method_10_code 138 = .ok (.bipush 33, 2) := by decide +kernel
theorem d_Reader_operand_140 : decode prog_9_method_10_code 140 = .ok (.if_icmp .ne 8, 3) := by decide +kernel
theorem d_Reader_operand_143 : decode prog_9_method_10_code 143 = .ok (.bipush 33, 2) := by decide +kernel
theorem d_Reader_operand_145 : decode prog_9_method_10_code 145 = .ok (.goto 5, 3) := by decide +kernel
theorem d_Reader_operand_148 : decode prog_9_method_10_code 148 = .ok (.bipush 126, 2) := by decide +kernel
theorem d_Reader_operand_150 : decode prog_9_method_10_code 150 = .ok (.iconst 0, 1) := by decide +kernel
theorem d_Reader_operand_151 : decode prog_9_method_10_code 151 = .ok (.invokevirtual 53, 3) := by decide +kernel
theorem d_Reader_operand_154 : decode prog_9_method_10_code 154 = .ok (.iconst 1, 1) := by decide +kernel
theorem d_Reader_operand_155 : decode prog_9_method_10_code 155 = .ok (.ireturn, 1) := by decide +kernel
theorem d_Reader_digits_0 : decode prog_9_method_11_code 0 = .ok (.iconst 0, 1) := by decide +kernel
theorem d_Reader_digits_1 : decode prog_9_method_11_code 1 = .ok (.istore_n 1, 1) := by decide +kernel
theorem d_Reader_digits_2 : decode prog_9_method_11_code 2 = .ok (.iconst 0, 1) := by decide +kernel
theorem d_Reader_digits_3 : decode prog_9_method_11_code 3 = .ok (.istore_n 2, 1) := by decide +kernel
theorem d_Reader_digits_4 : decode prog_9_method_11_code 4 = .ok (.iload_n 2, 1) := by decide +kernel
theorem d_Reader_digits_5 : decode prog_9_method_11_code 5 = .ok (.iconst 4, 1) := by decide +kernel
theorem d_Reader_digits_6 : decode prog_9_method_11_code 6 = .ok (.if_icmp .ge 42, 3) := by decide +kernel
theorem d_Reader_digits_9 : decode prog_9_method_11_code 9 = .ok (.aload_n 0, 1) := by decide +kernel
theorem d_Reader_digits_10 : decode prog_9_method_11_code 10 = .ok (.invokevirtual 33, 3) := by decide +kernel
theorem d_Reader_digits_13 : decode prog_9_method_11_code 13 = .ok (.invokestatic 65, 3) := by decide +kernel
theorem d_Reader_digits_16 : decode prog_9_method_11_code 16 = .ok (.ifCond .eq 32, 3) := by decide +kernel
theorem d_Reader_digits_19 : decode prog_9_method_11_code 19 = .ok (.iload_n 1, 1) := by decide +kernel
theorem d_Reader_digits_20 : decode prog_9_method_11_code 20 = .ok (.bipush 10, 2) := by decide +kernel
theorem d_Reader_digits_22 : decode prog_9_method_11_code 22 = .ok (.imul, 1) := by decide +kernel
theorem d_Reader_digits_23 : decode prog_9_method_11_code 23 = .ok (.aload_n 0, 1) := by decide +kernel
theorem d_Reader_digits_24 : decode prog_9_method_11_code 24 = .ok (.invokevirtual 33, 3) := by decide +kernel
theorem d_Reader_digits_27 : decode prog_9_method_11_code 27 = .ok (.bipush 48, 2) := by decide +kernel
theorem d_Reader_digits_29 : decode prog_9_method_11_code 29 = .ok (.isub, 1) := by decide +kernel
theorem d_Reader_digits_30 : decode prog_9_method_11_code 30 = .ok (.iadd, 1) := by decide +kernel
theorem d_Reader_digits_31 : decode prog_9_method_11_code 31 = .ok (.istore_n 1, 1) := by decide +kernel
theorem d_Reader_digits_32 : decode prog_9_method_11_code 32 = .ok (.aload_n 0, 1) := by decide +kernel
theorem d_Reader_digits_33 : decode prog_9_method_11_code 33 = .ok (.dup, 1) := by decide +kernel
theorem d_Reader_digits_34 : decode prog_9_method_11_code 34 = .ok (.getfield 17, 3) := by decide +kernel
theorem d_Reader_digits_37 : decode prog_9_method_11_code 37 = .ok (.iconst 1, 1) := by decide +kernel
theorem d_Reader_digits_38 : decode prog_9_method_11_code 38 = .ok (.iadd, 1) := by decide +kernel
theorem d_Reader_digits_39 : decode prog_9_method_11_code 39 = .ok (.putfield 17, 3) := by decide +kernel
theorem d_Reader_digits_42 : decode prog_9_method_11_code 42 = .ok (.iinc 2 1, 3) := by decide +kernel
theorem d_Reader_digits_45 : decode prog_9_method_11_code 45 = .ok (.goto (-41), 3) := by decide +kernel
theorem d_Reader_digits_48 : decode prog_9_method_11_code 48 = .ok (.aload_n 0, 1) := by decide +kernel
theorem d_Reader_digits_49 : decode prog_9_method_11_code 49 = .ok (.bipush 99, 2) := by decide +kernel
theorem d_Reader_digits_51 : decode prog_9_method_11_code 51 = .ok (.iload_n 1, 1) := by decide +kernel
theorem d_Reader_digits_52 : decode prog_9_method_11_code 52 = .ok (.invokevirtual 53, 3) := by decide +kernel
theorem d_Reader_digits_55 : decode prog_9_method_11_code 55 = .ok (.iconst 1, 1) := by decide +kernel
theorem d_Reader_digits_56 : decode prog_9_method_11_code 56 = .ok (.ireturn, 1) := by decide +kernel
theorem d_Reader_sign_0 : decode prog_9_method_12_code 0 = .ok (.aload_n 0, 1) := by decide +kernel
theorem d_Reader_sign_1 : decode prog_9_method_12_code 1 = .ok (.getfield 17, 3) := by decide +kernel
theorem d_Reader_sign_4 : decode prog_9_method_12_code 4 = .ok (.aload_n 0, 1) := by decide +kernel
theorem d_Reader_sign_5 : decode prog_9_method_12_code 5 = .ok (.getfield 13, 3) := by decide +kernel
theorem d_Reader_sign_8 : decode prog_9_method_12_code 8 = .ok (.if_icmp .ge 15, 3) := by decide +kernel
theorem d_Reader_sign_11 : decode prog_9_method_12_code 11 = .ok (.aload_n 0, 1) := by decide +kernel
theorem d_Reader_sign_12 : decode prog_9_method_12_code 12 = .ok (.getfield 9, 3) := by decide +kernel
theorem d_Reader_sign_15 : decode prog_9_method_12_code 15 = .ok (.aload_n 0, 1) := by decide +kernel
theorem d_Reader_sign_16 : decode prog_9_method_12_code 16 = .ok (.getfield 17, 3) := by decide +kernel
theorem d_Reader_sign_19 : decode prog_9_method_12_code 19 = .ok (.iaload, 1) := by decide +kernel
theorem d_Reader_sign_20 : decode prog_9_method_12_code 20 = .ok (.goto 4, 3) := by decide +kernel
theorem d_Reader_sign_23 : decode prog_9_method_12_code 23 = .ok (.iconst (-1), 1) := by decide +kernel
theorem d_Reader_sign_24 : decode prog_9_method_12_code 24 = .ok (.ireturn, 1) := by decide +kernel
theorem d_Reader_makes_0 : decode prog_9_method_13_code 0 = .ok (.aload_n 0, 1) := by decide +kernel
theorem d_Reader_makes_1 : decode prog_9_method_13_code 1 = .ok (.getfield 26, 3) := by decide +kernel
theorem d_Reader_makes_4 : decode prog_9_method_13_code 4 = .ok (.bipush 121, 2) := by decide +kernel
theorem d_Reader_makes_6 : decode prog_9_method_13_code 6 = .ok (.if_icmp .lt 4, 3) := by decide +kernel
theorem d_Reader_makes_9 : decode prog_9_method_13_code 9 = .ok (.return_, 1) := by decide +kernel
theorem d_Reader_makes_10 : decode prog_9_method_13_code 10 = .ok (.aload_n 0, 1) := by decide +kernel
theorem d_Reader_makes_11 : decode prog_9_method_13_code 11 = .ok (.getfield 20, 3) := by decide +kernel
theorem d_Reader_makes_14 : decode prog_9_method_13_code 14 = .ok (.aload_n 0, 1) := by decide +kernel
theorem d_Reader_makes_15 : decode prog_9_method_13_code 15 = .ok (.getfield 26, 3) := by decide +kernel
theorem d_Reader_makes_18 : decode prog_9_method_13_code 18 = .ok (.iload_n 1, 1) := by decide +kernel
theorem d_Reader_makes_19 : decode prog_9_method_13_code 19 = .ok (.iastore, 1) := by decide +kernel
theorem d_Reader_makes_20 : decode prog_9_method_13_code 20 = .ok (.aload_n 0, 1) := by decide +kernel
theorem d_Reader_makes_21 : decode prog_9_method_13_code 21 = .ok (.getfield 23, 3) := by decide +kernel
theorem d_Reader_makes_24 : decode prog_9_method_13_code 24 = .ok (.aload_n 0, 1) := by decide +kernel
theorem d_Reader_makes_25 : decode prog_9_method_13_code 25 = .ok (.getfield 26, 3) := by decide +kernel
theorem d_Reader_makes_28 : decode prog_9_method_13_code 28 = .ok (.iload_n 2, 1) := by decide +kernel
theorem d_Reader_makes_29 : decode prog_9_method_13_code 29 = .ok (.iastore, 1) := by decide +kernel
theorem d_Reader_makes_30 : decode prog_9_method_13_code 30 = .ok (.aload_n 0, 1) := by decide +kernel
theorem d_Reader_makes_31 : decode prog_9_method_13_code 31 = .ok (.dup, 1) := by decide +kernel
theorem d_Reader_makes_32 : decode prog_9_method_13_code 32 = .ok (.getfield 26, 3) := by decide +kernel
theorem d_Reader_makes_35 : decode prog_9_method_13_code 35 = .ok (.iconst 1, 1) := by decide +kernel
theorem d_Reader_makes_36 : decode prog_9_method_13_code 36 = .ok (.iadd, 1) := by decide +kernel
theorem d_Reader_makes_37 : decode prog_9_method_13_code 37 = .ok (.putfield 26, 3) := by decide +kernel
theorem d_Reader_makes_40 : decode prog_9_method_13_code 40 = .ok (.return_, 1) := by decide +kernel
theorem d_Reader_isDigit_0 : decode prog_9_method_14_code 0 = .ok (.iload_n 0, 1) := by decide +kernel
theorem d_Reader_isDigit_1 : decode prog_9_method_14_code 1 = .ok (.bipush 48, 2) := by decide +kernel
theorem d_Reader_isDigit_3 : decode prog_9_method_14_code 3 = .ok (.if_icmp .lt 13, 3) := by decide +kernel
theorem d_Reader_isDigit_6 : decode prog_9_method_14_code 6 = .ok (.iload_n 0, 1) := by decide +kernel
theorem d_Reader_isDigit_7 : decode prog_9_method_14_code 7 = .ok (.bipush 57, 2) := by decide +kernel
theorem d_Reader_isDigit_9 : decode prog_9_method_14_code 9 = .ok (.if_icmp .gt 7, 3) := by decide +kernel
theorem d_Reader_isDigit_12 : decode prog_9_method_14_code 12 = .ok (.iconst 1, 1) := by decide +kernel
theorem d_Reader_isDigit_13 : decode prog_9_method_14_code 13 = .ok (.goto 4, 3) := by decide +kernel
theorem d_Reader_isDigit_16 : decode prog_9_method_14_code 16 = .ok (.iconst 0, 1) := by decide +kernel
theorem d_Reader_isDigit_17 : decode prog_9_method_14_code 17 = .ok (.ireturn, 1) := by decide +kernel
theorem d_Reader_isName_0 : decode prog_9_method_15_code 0 = .ok (.iload_n 0, 1) := by decide +kernel
theorem d_Reader_isName_1 : decode prog_9_method_15_code 1 = .ok (.bipush 104, 2) := by decide +kernel
theorem d_Reader_isName_3 : decode prog_9_method_15_code 3 = .ok (.if_icmp .eq 33, 3) := by decide +kernel
theorem d_Reader_isName_6 : decode prog_9_method_15_code 6 = .ok (.iload_n 0, 1) := by decide +kernel
theorem d_Reader_isName_7 : decode prog_9_method_15_code 7 = .ok (.bipush 101, 2) := by decide +kernel
theorem d_Reader_isName_9 : decode prog_9_method_15_code 9 = .ok (.if_icmp .eq 27, 3) := by decide +kernel
theorem d_Reader_isName_12 : decode prog_9_method_15_code 12 = .ok (.iload_n 0, 1) := by decide +kernel
theorem d_Reader_isName_13 : decode prog_9_method_15_code 13 = .ok (.bipush 119, 2) := by decide +kernel
theorem d_Reader_isName_15 : decode prog_9_method_15_code 15 = .ok (.if_icmp .eq 21, 3) := by decide +kernel
theorem d_Reader_isName_18 : decode prog_9_method_15_code 18 = .ok (.iload_n 0, 1) := by decide +kernel
theorem d_Reader_isName_19 : decode prog_9_method_15_code 19 = .ok (.bipush 115, 2) := by decide +kernel
theorem d_Reader_isName_21 : decode prog_9_method_15_code 21 = .ok (.if_icmp .eq 15, 3) := by decide +kernel
theorem d_Reader_isName_24 : decode prog_9_method_15_code 24 = .ok (.iload_n 0, 1) := by decide +kernel
theorem d_Reader_isName_25 : decode prog_9_method_15_code 25 = .ok (.bipush 107, 2) := by decide +kernel
theorem d_Reader_isName_27 : decode prog_9_method_15_code 27 = .ok (.if_icmp .eq 9, 3) := by decide +kernel
theorem d_Reader_isName_30 : decode prog_9_method_15_code 30 = .ok (.iload_n 0, 1) := by decide +kernel
theorem d_Reader_isName_31 : decode prog_9_method_15_code 31 = .ok (.bipush 110, 2) := by decide +kernel
theorem d_Reader_isName_33 : decode prog_9_method_15_code 33 = .ok (.if_icmp .ne 7, 3) := by decide +kernel
theorem d_Reader_isName_36 : decode prog_9_method_15_code 36 = .ok (.iconst 1, 1) := by decide +kernel
theorem d_Reader_isName_37 : decode prog_9_method_15_code 37 = .ok (.goto 4, 3) := by decide +kernel
theorem d_Reader_isName_40 : decode prog_9_method_15_code 40 = .ok (.iconst 0, 1) := by decide +kernel
theorem d_Reader_isName_41 : decode prog_9_method_15_code 41 = .ok (.ireturn, 1) := by decide +kernel
theorem d_Reader_rankOf_0 : decode prog_9_method_16_code 0 = .ok (.iload_n 0, 1) := by decide +kernel
theorem d_Reader_rankOf_1 : decode prog_9_method_16_code 1 = .ok (.lookupswitch 101 #[(37, 99), (38, 93), (42, 99), (43, 97), (45, 97), (47, 99), (60, 95), (61, 95), (62, 95), (124, 91)], 91) := by decide +kernel
theorem d_Reader_rankOf_92 : decode prog_9_method_16_code 92 = .ok (.iconst 0, 1) := by decide +kernel
theorem d_Reader_rankOf_93 : decode prog_9_method_16_code 93 = .ok (.ireturn, 1) := by decide +kernel
theorem d_Reader_rankOf_94 : decode prog_9_method_16_code 94 = .ok (.iconst 1, 1) := by decide +kernel
theorem d_Reader_rankOf_95 : decode prog_9_method_16_code 95 = .ok (.ireturn, 1) := by decide +kernel
theorem d_Reader_rankOf_96 : decode prog_9_method_16_code 96 = .ok (.iconst 2, 1) := by decide +kernel
theorem d_Reader_rankOf_97 : decode prog_9_method_16_code 97 = .ok (.ireturn, 1) := by decide +kernel
theorem d_Reader_rankOf_98 : decode prog_9_method_16_code 98 = .ok (.iconst 3, 1) := by decide +kernel
theorem d_Reader_rankOf_99 : decode prog_9_method_16_code 99 = .ok (.ireturn, 1) := by decide +kernel
theorem d_Reader_rankOf_100 : decode prog_9_method_16_code 100 = .ok (.iconst 4, 1) := by decide +kernel
theorem d_Reader_rankOf_101 : decode prog_9_method_16_code 101 = .ok (.ireturn, 1) := by decide +kernel
theorem d_Reader_rankOf_102 : decode prog_9_method_16_code 102 = .ok (.iconst (-1), 1) := by decide +kernel
theorem d_Reader_rankOf_103 : decode prog_9_method_16_code 103 = .ok (.ireturn, 1) := by decide +kernel
theorem d_Seen_init_0 : decode prog_10_method_1_code 0 = .ok (.aload_n 0, 1) := by decide +kernel
theorem d_Seen_init_1 : decode prog_10_method_1_code 1 = .ok (.invokespecial 3, 3) := by decide +kernel
theorem d_Seen_init_4 : decode prog_10_method_1_code 4 = .ok (.aload_n 0, 1) := by decide +kernel
theorem d_Seen_init_5 : decode prog_10_method_1_code 5 = .ok (.aload_n 1, 1) := by decide +kernel
theorem d_Seen_init_6 : decode prog_10_method_1_code 6 = .ok (.putfield 9, 3) := by decide +kernel
theorem d_Seen_init_9 : decode prog_10_method_1_code 9 = .ok (.aload_n 0, 1) := by decide +kernel
theorem d_Seen_init_10 : decode prog_10_method_1_code 10 = .ok (.aload_n 2, 1) := by decide +kernel
theorem d_Seen_init_11 : decode prog_10_method_1_code 11 = .ok (.putfield 15, 3) := by decide +kernel
theorem d_Seen_init_14 : decode prog_10_method_1_code 14 = .ok (.aload_n 0, 1) := by decide +kernel
theorem d_Seen_init_15 : decode prog_10_method_1_code 15 = .ok (.aload_n 3, 1) := by decide +kernel
theorem d_Seen_init_16 : decode prog_10_method_1_code 16 = .ok (.putfield 19, 3) := by decide +kernel
theorem d_Seen_init_19 : decode prog_10_method_1_code 19 = .ok (.return_, 1) := by decide +kernel
theorem d_Seen_firstUnlike_0 : decode prog_10_method_2_code 0 = .ok (.aload_n 0, 1) := by decide +kernel
theorem d_Seen_firstUnlike_1 : decode prog_10_method_2_code 1 = .ok (.getfield 15, 3) := by decide +kernel
theorem d_Seen_firstUnlike_4 : decode prog_10_method_2_code 4 = .ok (.aload_n 0, 1) := by decide +kernel
theorem d_Seen_firstUnlike_5 : decode prog_10_method_2_code 5 = .ok (.getfield 9, 3) := by decide +kernel
theorem d_Seen_firstUnlike_8 : decode prog_10_method_2_code 8 = .ok (.invokevirtual 23, 3) := by decide +kernel
theorem d_Seen_firstUnlike_11 : decode prog_10_method_2_code 11 = .ok (.aload_n 0, 1) := by decide +kernel
theorem d_Seen_firstUnlike_12 : decode prog_10_method_2_code 12 = .ok (.iload_n 1, 1) := by decide +kernel
theorem d_Seen_firstUnlike_13 : decode prog_10_method_2_code 13 = .ok (.invokevirtual 29, 3) := by decide +kernel
theorem d_Seen_firstUnlike_16 : decode prog_10_method_2_code 16 = .ok (.ireturn, 1) := by decide +kernel
theorem d_Seen_goesOnUnlike_0 : decode prog_10_method_3_code 0 = .ok (.aload_n 0, 1) := by decide +kernel
theorem d_Seen_goesOnUnlike_1 : decode prog_10_method_3_code 1 = .ok (.getfield 19, 3) := by decide +kernel
theorem d_Seen_goesOnUnlike_4 : decode prog_10_method_3_code 4 = .ok (.iload_n 1, 1) := by decide +kernel
theorem d_Seen_goesOnUnlike_5 : decode prog_10_method_3_code 5 = .ok (.invokevirtual 33, 3) := by decide +kernel
theorem d_Seen_goesOnUnlike_8 : decode prog_10_method_3_code 8 = .ok (.istore_n 2, 1) := by decide +kernel
theorem d_Seen_goesOnUnlike_9 : decode prog_10_method_3_code 9 = .ok (.iconst 0, 1) := by decide +kernel
theorem d_Seen_goesOnUnlike_10 : decode prog_10_method_3_code 10 = .ok (.istore_n 3, 1) := by decide +kernel
theorem d_Seen_goesOnUnlike_11 : decode prog_10_method_3_code 11 = .ok (.iload_n 3, 1) := by decide +kernel
theorem d_Seen_goesOnUnlike_12 : decode prog_10_method_3_code 12 = .ok (.iload_n 2, 1) := by decide +kernel
theorem d_Seen_goesOnUnlike_13 : decode prog_10_method_3_code 13 = .ok (.if_icmp .ge 33, 3) := by decide +kernel
theorem d_Seen_goesOnUnlike_16 : decode prog_10_method_3_code 16 = .ok (.aload_n 0, 1) := by decide +kernel
theorem d_Seen_goesOnUnlike_17 : decode prog_10_method_3_code 17 = .ok (.getfield 15, 3) := by decide +kernel
theorem d_Seen_goesOnUnlike_20 : decode prog_10_method_3_code 20 = .ok (.iload_n 3, 1) := by decide +kernel
theorem d_Seen_goesOnUnlike_21 : decode prog_10_method_3_code 21 = .ok (.invokevirtual 38, 3) := by decide +kernel
theorem d_Seen_goesOnUnlike_24 : decode prog_10_method_3_code 24 = .ok (.i2l, 1) := by decide +kernel
theorem d_Seen_goesOnUnlike_25 : decode prog_10_method_3_code 25 = .ok (.aload_n 0, 1) := by decide +kernel
theorem d_Seen_goesOnUnlike_26 : decode prog_10_method_3_code 26 = .ok (.getfield 19, 3) := by decide +kernel
theorem d_Seen_goesOnUnlike_29 : decode prog_10_method_3_code 29 = .ok (.iload_n 1, 1) := by decide +kernel
theorem d_Seen_goesOnUnlike_30 : decode prog_10_method_3_code 30 = .ok (.iload_n 3, 1) := by decide +kernel
theorem d_Seen_goesOnUnlike_31 : decode prog_10_method_3_code 31 = .ok (.invokevirtual 41, 3) := by decide +kernel
theorem d_Seen_goesOnUnlike_34 : decode prog_10_method_3_code 34 = .ok (.lcmp, 1) := by decide +kernel
theorem d_Seen_goesOnUnlike_35 : decode prog_10_method_3_code 35 = .ok (.ifCond .eq 5, 3) := by decide +kernel
theorem d_Seen_goesOnUnlike_38 : decode prog_10_method_3_code 38 = .ok (.iload_n 3, 1) := by decide +kernel
theorem d_Seen_goesOnUnlike_39 : decode prog_10_method_3_code 39 = .ok (.ireturn, 1) := by decide +kernel
theorem d_Seen_goesOnUnlike_40 : decode prog_10_method_3_code 40 = .ok (.iinc 3 1, 3) := by decide +kernel
theorem d_Seen_goesOnUnlike_43 : decode prog_10_method_3_code 43 = .ok (.goto (-32), 3) := by decide +kernel
theorem d_Seen_goesOnUnlike_46 : decode prog_10_method_3_code 46 = .ok (.bipush (-2), 2) := by decide +kernel
theorem d_Seen_goesOnUnlike_48 : decode prog_10_method_3_code 48 = .ok (.ireturn, 1) := by decide +kernel
theorem d_Seen_setsThatFit_0 : decode prog_10_method_4_code 0 = .ok (.aload_n 0, 1) := by decide +kernel
theorem d_Seen_setsThatFit_1 : decode prog_10_method_4_code 1 = .ok (.getfield 15, 3) := by decide +kernel
theorem d_Seen_setsThatFit_4 : decode prog_10_method_4_code 4 = .ok (.aload_n 0, 1) := by decide +kernel
theorem d_Seen_setsThatFit_5 : decode prog_10_method_4_code 5 = .ok (.getfield 9, 3) := by decide +kernel
theorem d_Seen_setsThatFit_8 : decode prog_10_method_4_code 8 = .ok (.invokevirtual 23, 3) := by decide +kernel
theorem d_Seen_setsThatFit_11 : decode prog_10_method_4_code 11 = .ok (.iconst 0, 1) := by decide +kernel
theorem d_Seen_setsThatFit_12 : decode prog_10_method_4_code 12 = .ok (.istore_n 3, 1) := by decide +kernel
theorem d_Seen_setsThatFit_13 : decode prog_10_method_4_code 13 = .ok (.aload_n 0, 1) := by decide +kernel
theorem d_Seen_setsThatFit_14 : decode prog_10_method_4_code 14 = .ok (.getfield 9, 3) := by decide +kernel
theorem d_Seen_setsThatFit_17 : decode prog_10_method_4_code 17 = .ok (.invokevirtual 45, 3) := by decide +kernel
theorem d_Seen_setsThatFit_20 : decode prog_10_method_4_code 20 = .ok (.istore 4, 2) := by decide +kernel
theorem d_Seen_setsThatFit_22 : decode prog_10_method_4_code 22 = .ok (.iconst 0, 1) := by decide +kernel
theorem d_Seen_setsThatFit_23 : decode prog_10_method_4_code 23 = .ok (.istore 5, 2) := by decide +kernel
theorem d_Seen_setsThatFit_25 : decode prog_10_method_4_code 25 = .ok (.iload 5, 2) := by decide +kernel
theorem d_Seen_setsThatFit_27 : decode prog_10_method_4_code 27 = .ok (.aload_n 0, 1) := by decide +kernel
theorem d_Seen_setsThatFit_28 : decode prog_10_method_4_code 28 = .ok (.getfield 9, 3) := by decide +kernel
theorem d_Seen_setsThatFit_31 : decode prog_10_method_4_code 31 = .ok (.invokevirtual 45, 3) := by decide +kernel
theorem d_Seen_setsThatFit_34 : decode prog_10_method_4_code 34 = .ok (.if_icmp .gt 41, 3) := by decide +kernel
theorem d_Seen_setsThatFit_37 : decode prog_10_method_4_code 37 = .ok (.aload_n 0, 1) := by decide +kernel
theorem d_Seen_setsThatFit_38 : decode prog_10_method_4_code 38 = .ok (.getfield 15, 3) := by decide +kernel
theorem d_Seen_setsThatFit_41 : decode prog_10_method_4_code 41 = .ok (.iload 5, 2) := by decide +kernel
theorem d_Seen_setsThatFit_43 : decode prog_10_method_4_code 43 = .ok (.invokevirtual 51, 3) := by decide +kernel
theorem d_Seen_setsThatFit_46 : decode prog_10_method_4_code 46 = .ok (.aload_n 0, 1) := by decide +kernel
theorem d_Seen_setsThatFit_47 : decode prog_10_method_4_code 47 = .ok (.iload_n 1, 1) := by decide +kernel
theorem d_Seen_setsThatFit_48 : decode prog_10_method_4_code 48 = .ok (.invokevirtual 29, 3) := by decide +kernel
theorem d_Seen_setsThatFit_51 : decode prog_10_method_4_code 51 = .ok (.bipush (-2), 2) := by decide +kernel
theorem d_Seen_setsThatFit_53 : decode prog_10_method_4_code 53 = .ok (.if_icmp .eq 6, 3) := by decide +kernel
theorem d_Seen_setsThatFit_56 : decode prog_10_method_4_code 56 = .ok (.goto 13, 3) := by decide +kernel
theorem d_Seen_setsThatFit_59 : decode prog_10_method_4_code 59 = .ok (.iinc 3 1, 3) := by decide +kernel
theorem d_Seen_setsThatFit_62 : decode prog_10_method_4_code 62 = .ok (.iload 4, 2) := by decide +kernel
theorem d_Seen_setsThatFit_64 : decode prog_10_method_4_code 64 = .ok (.iload 5, 2) := by decide +kernel
theorem d_Seen_setsThatFit_66 : decode prog_10_method_4_code 66 = .ok (.iand, 1) := by decide +kernel
theorem d_Seen_setsThatFit_67 : decode prog_10_method_4_code 67 = .ok (.istore 4, 2) := by decide +kernel
theorem d_Seen_setsThatFit_69 : decode prog_10_method_4_code 69 = .ok (.iinc 5 1, 3) := by decide +kernel
theorem d_Seen_setsThatFit_72 : decode prog_10_method_4_code 72 = .ok (.goto (-47), 3) := by decide +kernel
theorem d_Seen_setsThatFit_75 : decode prog_10_method_4_code 75 = .ok (.iload_n 2, 1) := by decide +kernel
theorem d_Seen_setsThatFit_76 : decode prog_10_method_4_code 76 = .ok (.ifCond .ne 5, 3) := by decide +kernel
theorem d_Seen_setsThatFit_79 : decode prog_10_method_4_code 79 = .ok (.iload_n 3, 1) := by decide +kernel
theorem d_Seen_setsThatFit_80 : decode prog_10_method_4_code 80 = .ok (.ireturn, 1) := by decide +kernel
theorem d_Seen_setsThatFit_81 : decode prog_10_method_4_code 81 = .ok (.iload_n 3, 1) := by decide +kernel
theorem d_Seen_setsThatFit_82 : decode prog_10_method_4_code 82 = .ok (.ifCond .ne 8, 3) := by decide +kernel
theorem d_Seen_setsThatFit_85 : decode prog_10_method_4_code 85 = .ok (.bipush (-2), 2) := by decide +kernel
theorem d_Seen_setsThatFit_87 : decode prog_10_method_4_code 87 = .ok (.goto 5, 3) := by decide +kernel
theorem d_Seen_setsThatFit_90 : decode prog_10_method_4_code 90 = .ok (.iload 4, 2) := by decide +kernel
theorem d_Seen_setsThatFit_92 : decode prog_10_method_4_code 92 = .ok (.ireturn, 1) := by decide +kernel
theorem d_Seen_leastHeeled_0 : decode prog_10_method_5_code 0 = .ok (.aload_n 0, 1) := by decide +kernel
theorem d_Seen_leastHeeled_1 : decode prog_10_method_5_code 1 = .ok (.getfield 15, 3) := by decide +kernel
theorem d_Seen_leastHeeled_4 : decode prog_10_method_5_code 4 = .ok (.aload_n 0, 1) := by decide +kernel
theorem d_Seen_leastHeeled_5 : decode prog_10_method_5_code 5 = .ok (.getfield 9, 3) := by decide +kernel
theorem d_Seen_leastHeeled_8 : decode prog_10_method_5_code 8 = .ok (.invokevirtual 23, 3) := by decide +kernel
theorem d_Seen_leastHeeled_11 : decode prog_10_method_5_code 11 = .ok (.iconst 0, 1) := by decide +kernel
theorem d_Seen_leastHeeled_12 : decode prog_10_method_5_code 12 = .ok (.istore_n 2, 1) := by decide +kernel
theorem d_Seen_leastHeeled_13 : decode prog_10_method_5_code 13 = .ok (.iload_n 2, 1) := by decide +kernel
theorem d_Seen_leastHeeled_14 : decode prog_10_method_5_code 14 = .ok (.aload_n 0, 1) := by decide +kernel
theorem d_Seen_leastHeeled_15 : decode prog_10_method_5_code 15 = .ok (.getfield 9, 3) := by decide +kernel
theorem d_Seen_leastHeeled_18 : decode prog_10_method_5_code 18 = .ok (.invokevirtual 45, 3) := by decide +kernel
theorem d_Seen_leastHeeled_21 : decode prog_10_method_5_code 21 = .ok (.if_icmp .gt 104, 3) := by decide +kernel
theorem d_Seen_leastHeeled_24 : decode prog_10_method_5_code 24 = .ok (.iconst 0, 1) := by decide +kernel
theorem d_Seen_leastHeeled_25 : decode prog_10_method_5_code 25 = .ok (.istore_n 3, 1) := by decide +kernel
theorem d_Seen_leastHeeled_26 : decode prog_10_method_5_code 26 = .ok (.iload_n 3, 1) := by decide +kernel
theorem d_Seen_leastHeeled_27 : decode prog_10_method_5_code 27 = .ok (.aload_n 0, 1) := by decide +kernel
theorem d_Seen_leastHeeled_28 : decode prog_10_method_5_code 28 = .ok (.getfield 9, 3) := by decide +kernel
theorem d_Seen_leastHeeled_31 : decode prog_10_method_5_code 31 = .ok (.invokevirtual 55, 3) := by decide +kernel
theorem d_Seen_leastHeeled_34 : decode prog_10_method_5_code 34 = .ok (.if_icmp .ge 59, 3) := by decide +kernel
theorem d_Seen_leastHeeled_37 : decode prog_10_method_5_code 37 = .ok (.aload_n 0, 1) := by decide +kernel
theorem d_Seen_leastHeeled_38 : decode prog_10_method_5_code 38 = .ok (.getfield 9, 3) := by decide +kernel
theorem d_Seen_leastHeeled_41 : decode prog_10_method_5_code 41 = .ok (.iconst 3, 1) := by decide +kernel
theorem d_Seen_leastHeeled_42 : decode prog_10_method_5_code 42 = .ok (.iload_n 3, 1) := by decide +kernel
theorem d_Seen_leastHeeled_43 : decode prog_10_method_5_code 43 = .ok (.invokevirtual 58, 3) := by decide +kernel
theorem d_Seen_leastHeeled_46 : decode prog_10_method_5_code 46 = .ok (.istore 4, 2) := by decide +kernel
theorem d_Seen_leastHeeled_48 : decode prog_10_method_5_code 48 = .ok (.bipush 20, 2) := by decide +kernel
theorem d_Seen_leastHeeled_50 : decode prog_10_method_5_code 50 = .ok (.iload 4, 2) := by decide +kernel
theorem d_Seen_leastHeeled_52 : decode prog_10_method_5_code 52 = .ok (.bipush 10, 2) := by decide +kernel
theorem d_Seen_leastHeeled_54 : decode prog_10_method_5_code 54 = .ok (.iadd, 1) := by decide +kernel
theorem d_Seen_leastHeeled_55 : decode prog_10_method_5_code 55 = .ok (.invokestatic 62, 3) := by decide +kernel
theorem d_Seen_leastHeeled_58 : decode prog_10_method_5_code 58 = .ok (.istore 5, 2) := by decide +kernel
theorem d_Seen_leastHeeled_60 : decode prog_10_method_5_code 60 = .ok (.aload_n 0, 1) := by decide +kernel
theorem d_Seen_leastHeeled_61 : decode prog_10_method_5_code 61 = .ok (.getfield 15, 3) := by decide +kernel
theorem d_Seen_leastHeeled_64 : decode prog_10_method_5_code 64 = .ok (.invokevirtual 67, 3) := by decide +kernel
theorem d_Seen_leastHeeled_67 : decode prog_10_method_5_code 67 = .ok (.iconst 3, 1) := by decide +kernel
theorem d_Seen_leastHeeled_68 : decode prog_10_method_5_code 68 = .ok (.iload_n 3, 1) := by decide +kernel
theorem d_Seen_leastHeeled_69 : decode prog_10_method_5_code 69 = .ok (.iload_n 2, 1) := by decide +kernel
theorem d_Seen_leastHeeled_70 : decode prog_10_method_5_code 70 = .ok (.iload_n 3, 1) := by decide +kernel
theorem d_Seen_leastHeeled_71 : decode prog_10_method_5_code 71 = .ok (.ishr, 1) := by decide +kernel
theorem d_Seen_leastHeeled_72 : decode prog_10_method_5_code 72 = .ok (.iconst 1, 1) := by decide +kernel
theorem d_Seen_leastHeeled_73 : decode prog_10_method_5_code 73 = .ok (.iand, 1) := by decide +kernel
theorem d_Seen_leastHeeled_74 : decode prog_10_method_5_code 74 = .ok (.ifCond .eq 8, 3) := by decide +kernel
theorem d_Seen_leastHeeled_77 : decode prog_10_method_5_code 77 = .ok (.iload 5, 2) := by decide +kernel
theorem d_Seen_leastHeeled_79 : decode prog_10_method_5_code 79 = .ok (.goto 5, 3) := by decide +kernel
theorem d_Seen_leastHeeled_82 : decode prog_10_method_5_code 82 = .ok (.iload 4, 2) := by decide +kernel
theorem d_Seen_leastHeeled_84 : decode prog_10_method_5_code 84 = .ok (.invokevirtual 71, 3) := by decide +kernel
theorem d_Seen_leastHeeled_87 : decode prog_10_method_5_code 87 = .ok (.iinc 3 1, 3) := by decide +kernel
theorem d_Seen_leastHeeled_90 : decode prog_10_method_5_code 90 = .ok (.goto (-64), 3) := by decide +kernel
theorem d_Seen_leastHeeled_93 : decode prog_10_method_5_code 93 = .ok (.aload_n 0, 1) := by decide +kernel
theorem d_Seen_leastHeeled_94 : decode prog_10_method_5_code 94 = .ok (.getfield 15, 3) := by decide +kernel
theorem d_Seen_leastHeeled_97 : decode prog_10_method_5_code 97 = .ok (.aload_n 0, 1) := by decide +kernel
theorem d_Seen_leastHeeled_98 : decode prog_10_method_5_code 98 = .ok (.getfield 9, 3) := by decide +kernel
theorem d_Seen_leastHeeled_101 : decode prog_10_method_5_code 101 = .ok (.invokevirtual 45, 3) := by decide +kernel
theorem d_Seen_leastHeeled_104 : decode prog_10_method_5_code 104 = .ok (.invokevirtual 51, 3) := by decide +kernel
theorem d_Seen_leastHeeled_107 : decode prog_10_method_5_code 107 = .ok (.aload_n 0, 1) := by decide +kernel
theorem d_Seen_leastHeeled_108 : decode prog_10_method_5_code 108 = .ok (.iload_n 1, 1) := by decide +kernel
theorem d_Seen_leastHeeled_109 : decode prog_10_method_5_code 109 = .ok (.invokevirtual 29, 3) := by decide +kernel
theorem d_Seen_leastHeeled_112 : decode prog_10_method_5_code 112 = .ok (.bipush (-2), 2) := by decide +kernel
theorem d_Seen_leastHeeled_114 : decode prog_10_method_5_code 114 = .ok (.if_icmp .ne 5, 3) := by decide +kernel
theorem d_Seen_leastHeeled_117 : decode prog_10_method_5_code 117 = .ok (.iload_n 2, 1) := by decide +kernel
theorem d_Seen_leastHeeled_118 : decode prog_10_method_5_code 118 = .ok (.ireturn, 1) := by decide +kernel
theorem d_Seen_leastHeeled_119 : decode prog_10_method_5_code 119 = .ok (.iinc 2 1, 3) := by decide +kernel
theorem d_Seen_leastHeeled_122 : decode prog_10_method_5_code 122 = .ok (.goto (-109), 3) := by decide +kernel
theorem d_Seen_leastHeeled_125 : decode prog_10_method_5_code 125 = .ok (.bipush (-2), 2) := by decide +kernel
theorem d_Seen_leastHeeled_127 : decode prog_10_method_5_code 127 = .ok (.ireturn, 1) := by decide +kernel
theorem d_Seen_drawnDays_0 : decode prog_10_method_6_code 0 = .ok (.aload_n 0, 1) := by decide +kernel
theorem d_Seen_drawnDays_1 : decode prog_10_method_6_code 1 = .ok (.getfield 15, 3) := by decide +kernel
theorem d_Seen_drawnDays_4 : decode prog_10_method_6_code 4 = .ok (.aload_n 0, 1) := by decide +kernel
theorem d_Seen_drawnDays_5 : decode prog_10_method_6_code 5 = .ok (.getfield 9, 3) := by decide +kernel
theorem d_Seen_drawnDays_8 : decode prog_10_method_6_code 8 = .ok (.invokevirtual 23, 3) := by decide +kernel
theorem d_Seen_drawnDays_11 : decode prog_10_method_6_code 11 = .ok (.iload_n 1, 1) := by decide +kernel
theorem d_Seen_drawnDays_12 : decode prog_10_method_6_code 12 = .ok (.istore 4, 2) := by decide +kernel
theorem d_Seen_drawnDays_14 : decode prog_10_method_6_code 14 = .ok (.iconst 0, 1) := by decide +kernel
theorem d_Seen_drawnDays_15 : decode prog_10_method_6_code 15 = .ok (.istore 5, 2) := by decide +kernel
theorem d_Seen_drawnDays_17 : decode prog_10_method_6_code 17 = .ok (.iconst 0, 1) := by decide +kernel
theorem d_Seen_drawnDays_18 : decode prog_10_method_6_code 18 = .ok (.istore 6, 2) := by decide +kernel
theorem d_Seen_drawnDays_20 : decode prog_10_method_6_code 20 = .ok (.iload 6, 2) := by decide +kernel
theorem d_Seen_drawnDays_22 : decode prog_10_method_6_code 22 = .ok (.iload_n 2, 1) := by decide +kernel
theorem d_Seen_drawnDays_23 : decode prog_10_method_6_code 23 = .ok (.if_icmp .ge 118, 3) := by decide +kernel
theorem d_Seen_drawnDays_26 : decode prog_10_method_6_code 26 = .ok (.iconst 0, 1) := by decide +kernel
theorem d_Seen_drawnDays_27 : decode prog_10_method_6_code 27 = .ok (.istore 7, 2) := by decide +kernel
theorem d_Seen_drawnDays_29 : decode prog_10_method_6_code 29 = .ok (.iload 7, 2) := by decide +kernel
theorem d_Seen_drawnDays_31 : decode prog_10_method_6_code 31 = .ok (.aload_n 0, 1) := by decide +kernel
theorem d_Seen_drawnDays_32 : decode prog_10_method_6_code 32 = .ok (.getfield 9, 3) := by decide +kernel
theorem d_Seen_drawnDays_35 : decode prog_10_method_6_code 35 = .ok (.invokevirtual 55, 3) := by decide +kernel
theorem d_Seen_drawnDays_38 : decode prog_10_method_6_code 38 = .ok (.if_icmp .ge 41, 3) := by decide +kernel
theorem d_Seen_drawnDays_41 : decode prog_10_method_6_code 41 = .ok (.iload 4, 2) := by decide +kernel
theorem d_Seen_drawnDays_43 : decode prog_10_method_6_code 43 = .ok (.ldc 75, 2) := by decide +kernel
theorem d_Seen_drawnDays_45 : decode prog_10_method_6_code 45 = .ok (.imul, 1) := by decide +kernel
theorem d_Seen_drawnDays_46 : decode prog_10_method_6_code 46 = .ok (.sipush 12345, 3) := by decide +kernel
theorem d_Seen_drawnDays_49 : decode prog_10_method_6_code 49 = .ok (.iadd, 1) := by decide +kernel
theorem d_Seen_drawnDays_50 : decode prog_10_method_6_code 50 = .ok (.istore 4, 2) := by decide +kernel
theorem d_Seen_drawnDays_52 : decode prog_10_method_6_code 52 = .ok (.aload_n 0, 1) := by decide +kernel
theorem d_Seen_drawnDays_53 : decode prog_10_method_6_code 53 = .ok (.getfield 15, 3) := by decide +kernel
theorem d_Seen_drawnDays_56 : decode prog_10_method_6_code 56 = .ok (.invokevirtual 67, 3) := by decide +kernel
theorem d_Seen_drawnDays_59 : decode prog_10_method_6_code 59 = .ok (.iconst 1, 1) := by decide +kernel
theorem d_Seen_drawnDays_60 : decode prog_10_method_6_code 60 = .ok (.iload 7, 2) := by decide +kernel
theorem d_Seen_drawnDays_62 : decode prog_10_method_6_code 62 = .ok (.iload 4, 2) := by decide +kernel
theorem d_Seen_drawnDays_64 : decode prog_10_method_6_code 64 = .ok (.bipush 8, 2) := by decide +kernel
theorem d_Seen_drawnDays_66 : decode prog_10_method_6_code 66 = .ok (.iushr, 1) := by decide +kernel
theorem d_Seen_drawnDays_67 : decode prog_10_method_6_code 67 = .ok (.bipush 60, 2) := by decide +kernel
theorem d_Seen_drawnDays_69 : decode prog_10_method_6_code 69 = .ok (.irem, 1) := by decide +kernel
theorem d_Seen_drawnDays_70 : decode prog_10_method_6_code 70 = .ok (.invokevirtual 71, 3) := by decide +kernel
theorem d_Seen_drawnDays_73 : decode prog_10_method_6_code 73 = .ok (.iinc 7 1, 3) := by decide +kernel
theorem d_Seen_drawnDays_76 : decode prog_10_method_6_code 76 = .ok (.goto (-47), 3) := by decide +kernel
theorem d_Seen_drawnDays_79 : decode prog_10_method_6_code 79 = .ok (.aload_n 0, 1) := by decide +kernel
theorem d_Seen_drawnDays_80 : decode prog_10_method_6_code 80 = .ok (.getfield 15, 3) := by decide +kernel
theorem d_Seen_drawnDays_83 : decode prog_10_method_6_code 83 = .ok (.aload_n 0, 1) := by decide +kernel
theorem d_Seen_drawnDays_84 : decode prog_10_method_6_code 84 = .ok (.getfield 9, 3) := by decide +kernel
theorem d_Seen_drawnDays_87 : decode prog_10_method_6_code 87 = .ok (.invokevirtual 45, 3) := by decide +kernel
theorem d_Seen_drawnDays_90 : decode prog_10_method_6_code 90 = .ok (.invokevirtual 51, 3) := by decide +kernel
theorem d_Seen_drawnDays_93 : decode prog_10_method_6_code 93 = .ok (.aload_n 0, 1) := by decide +kernel
theorem d_Seen_drawnDays_94 : decode prog_10_method_6_code 94 = .ok (.getfield 15, 3) := by decide +kernel
theorem d_Seen_drawnDays_97 : decode prog_10_method_6_code 97 = .ok (.bipush 60, 2) := by decide +kernel
theorem d_Seen_drawnDays_99 : decode prog_10_method_6_code 99 = .ok (.iconst 5, 1) := by decide +kernel
theorem d_Seen_drawnDays_100 : decode prog_10_method_6_code 100 = .ok (.invokevirtual 78, 3) := by decide +kernel
theorem d_Seen_drawnDays_103 : decode prog_10_method_6_code 103 = .ok (.istore 7, 2) := by decide +kernel
theorem d_Seen_drawnDays_105 : decode prog_10_method_6_code 105 = .ok (.iload_n 3, 1) := by decide +kernel
theorem d_Seen_drawnDays_106 : decode prog_10_method_6_code 106 = .ok (.ifCond .ge 13, 3) := by decide +kernel
theorem d_Seen_drawnDays_109 : decode prog_10_method_6_code 109 = .ok (.iload 5, 2) := by decide +kernel
theorem d_Seen_drawnDays_111 : decode prog_10_method_6_code 111 = .ok (.iload 7, 2) := by decide +kernel
theorem d_Seen_drawnDays_113 : decode prog_10_method_6_code 113 = .ok (.iadd, 1) := by decide +kernel
theorem d_Seen_drawnDays_114 : decode prog_10_method_6_code 114 = .ok (.istore 5, 2) := by decide +kernel
theorem d_Seen_drawnDays_116 : decode prog_10_method_6_code 116 = .ok (.goto 19, 3) := by decide +kernel
theorem d_Seen_drawnDays_119 : decode prog_10_method_6_code 119 = .ok (.aload_n 0, 1) := by decide +kernel
theorem d_Seen_drawnDays_120 : decode prog_10_method_6_code 120 = .ok (.getfield 15, 3) := by decide +kernel
theorem d_Seen_drawnDays_123 : decode prog_10_method_6_code 123 = .ok (.iload_n 3, 1) := by decide +kernel
theorem d_Seen_drawnDays_124 : decode prog_10_method_6_code 124 = .ok (.invokevirtual 81, 3) := by decide +kernel
theorem d_Seen_drawnDays_127 : decode prog_10_method_6_code 127 = .ok (.bipush (-2), 2) := by decide +kernel
theorem d_Seen_drawnDays_129 : decode prog_10_method_6_code 129 = .ok (.if_icmp .eq 6, 3) := by decide +kernel
theorem d_Seen_drawnDays_132 : decode prog_10_method_6_code 132 = .ok (.iinc 5 1, 3) := by decide +kernel
theorem d_Seen_drawnDays_135 : decode prog_10_method_6_code 135 = .ok (.iinc 6 1, 3) := by decide +kernel
theorem d_Seen_drawnDays_138 : decode prog_10_method_6_code 138 = .ok (.goto (-118), 3) := by decide +kernel
theorem d_Seen_drawnDays_141 : decode prog_10_method_6_code 141 = .ok (.iload 5, 2) := by decide +kernel
theorem d_Seen_drawnDays_143 : decode prog_10_method_6_code 143 = .ok (.ireturn, 1) := by decide +kernel
theorem d_Shelves_init_0 : decode prog_11_method_1_code 0 = .ok (.aload_n 0, 1) := by decide +kernel
theorem d_Shelves_init_1 : decode prog_11_method_1_code 1 = .ok (.invokespecial 1, 3) := by decide +kernel
theorem d_Shelves_init_4 : decode prog_11_method_1_code 4 = .ok (.aload_n 0, 1) := by decide +kernel
theorem d_Shelves_init_5 : decode prog_11_method_1_code 5 = .ok (.bipush 6, 2) := by decide +kernel
theorem d_Shelves_init_7 : decode prog_11_method_1_code 7 = .ok (.newarray .int, 2) := by decide +kernel
theorem d_Shelves_init_9 : decode prog_11_method_1_code 9 = .ok (.putfield 9, 3) := by decide +kernel
theorem d_Shelves_init_12 : decode prog_11_method_1_code 12 = .ok (.aload_n 0, 1) := by decide +kernel
theorem d_Shelves_init_13 : decode prog_11_method_1_code 13 = .ok (.bipush 6, 2) := by decide +kernel
theorem d_Shelves_init_15 : decode prog_11_method_1_code 15 = .ok (.newarray .int, 2) := by decide +kernel
theorem d_Shelves_init_17 : decode prog_11_method_1_code 17 = .ok (.putfield 13, 3) := by decide +kernel
theorem d_Shelves_init_20 : decode prog_11_method_1_code 20 = .ok (.aload_n 0, 1) := by decide +kernel
theorem d_Shelves_init_21 : decode prog_11_method_1_code 21 = .ok (.bipush 6, 2) := by decide +kernel
theorem d_Shelves_init_23 : decode prog_11_method_1_code 23 = .ok (.newarray .int, 2) := by decide +kernel
theorem d_Shelves_init_25 : decode prog_11_method_1_code 25 = .ok (.putfield 16, 3) := by decide +kernel
theorem d_Shelves_init_28 : decode prog_11_method_1_code 28 = .ok (.aload_n 0, 1) := by decide +kernel
theorem d_Shelves_init_29 : decode prog_11_method_1_code 29 = .ok (.sipush 360, 3) := by decide +kernel
theorem d_Shelves_init_32 : decode prog_11_method_1_code 32 = .ok (.newarray .long, 2) := by decide +kernel
theorem d_Shelves_init_34 : decode prog_11_method_1_code 34 = .ok (.putfield 19, 3) := by decide +kernel
theorem d_Shelves_init_37 : decode prog_11_method_1_code 37 = .ok (.aload_n 0, 1) := by decide +kernel
theorem d_Shelves_init_38 : decode prog_11_method_1_code 38 = .ok (.getfield 9, 3) := by decide +kernel
theorem d_Shelves_init_41 : decode prog_11_method_1_code 41 = .ok (.iconst (-1), 1) := by decide +kernel
theorem d_Shelves_init_42 : decode prog_11_method_1_code 42 = .ok (.invokestatic 23, 3) := by decide +kernel
theorem d_Shelves_init_45 : decode prog_11_method_1_code 45 = .ok (.aload_n 0, 1) := by decide +kernel
theorem d_Shelves_init_46 : decode prog_11_method_1_code 46 = .ok (.getfield 13, 3) := by decide +kernel
theorem d_Shelves_init_49 : decode prog_11_method_1_code 49 = .ok (.iconst (-1), 1) := by decide +kernel
theorem d_Shelves_init_50 : decode prog_11_method_1_code 50 = .ok (.invokestatic 23, 3) := by decide +kernel
theorem d_Shelves_init_53 : decode prog_11_method_1_code 53 = .ok (.return_, 1) := by decide +kernel
theorem d_Shelves_isShelf_0 : decode prog_11_method_2_code 0 = .ok (.iload_n 0, 1) := by decide +kernel
theorem d_Shelves_isShelf_1 : decode prog_11_method_2_code 1 = .ok (.ifCond .lt 13, 3) := by decide +kernel
theorem d_Shelves_isShelf_4 : decode prog_11_method_2_code 4 = .ok (.iload_n 0, 1) := by decide +kernel
theorem d_Shelves_isShelf_5 : decode prog_11_method_2_code 5 = .ok (.bipush 6, 2) := by decide +kernel
theorem d_Shelves_isShelf_7 : decode prog_11_method_2_code 7 = .ok (.if_icmp .ge 7, 3) := by decide +kernel
theorem d_Shelves_isShelf_10 : decode prog_11_method_2_code 10 = .ok (.iconst 1, 1) := by decide +kernel
theorem d_Shelves_isShelf_11 : decode prog_11_method_2_code 11 = .ok (.goto 4, 3) := by decide +kernel
theorem d_Shelves_isShelf_14 : decode prog_11_method_2_code 14 = .ok (.iconst 0, 1) := by decide +kernel
theorem d_Shelves_isShelf_15 : decode prog_11_method_2_code 15 = .ok (.ireturn, 1) := by decide +kernel
theorem d_Shelves_isBare_0 : decode prog_11_method_3_code 0 = .ok (.iload_n 1, 1) := by decide +kernel
theorem d_Shelves_isBare_1 : decode prog_11_method_3_code 1 = .ok (.invokestatic 29, 3) := by decide +kernel
theorem d_Shelves_isBare_4 : decode prog_11_method_3_code 4 = .ok (.ifCond .eq 27, 3) := by decide +kernel
theorem d_Shelves_isBare_7 : decode prog_11_method_3_code 7 = .ok (.aload_n 0, 1) := by decide +kernel
theorem d_Shelves_isBare_8 : decode prog_11_method_3_code 8 = .ok (.getfield 9, 3) := by decide +kernel
theorem d_Shelves_isBare_11 : decode prog_11_method_3_code 11 = .ok (.iload_n 1, 1) := by decide +kernel
theorem d_Shelves_isBare_12 : decode prog_11_method_3_code 12 = .ok (.iaload, 1) := by decide +kernel
theorem d_Shelves_isBare_13 : decode prog_11_method_3_code 13 = .ok (.iconst (-1), 1) := by decide +kernel
theorem d_Shelves_isBare_14 : decode prog_11_method_3_code 14 = .ok (.if_icmp .ne 17, 3) := by decide +kernel
theorem d_Shelves_isBare_17 : decode prog_11_method_3_code 17 = .ok (.aload_n 0, 1) := by decide +kernel
theorem d_Shelves_isBare_18 : decode prog_11_method_3_code 18 = .ok (.getfield 13, 3) := by decide +kernel
theorem d_Shelves_isBare_21 : decode prog_11_method_3_code 21 = .ok (.iload_n 1, 1) := by decide +kernel
theorem d_Shelves_isBare_22 : decode prog_11_method_3_code 22 = .ok (.iaload, 1) := by decide +kernel
theorem d_Shelves_isBare_23 : decode prog_11_method_3_code 23 = .ok (.iconst (-1), 1) := by decide +kernel
theorem d_Shelves_isBare_24 : decode prog_11_method_3_code 24 = .ok (.if_icmp .ne 7, 3) := by decide +kernel
theorem d_Shelves_isBare_27 : decode prog_11_method_3_code 27 = .ok (.iconst 1, 1) := by decide +kernel
theorem d_Shelves_isBare_28 : decode prog_11_method_3_code 28 = .ok (.goto 4, 3) := by decide +kernel
theorem d_Shelves_isBare_31 : decode prog_11_method_3_code 31 = .ok (.iconst 0, 1) := by decide +kernel
theorem d_Shelves_isBare_32 : decode prog_11_method_3_code 32 = .ok (.ireturn, 1) := by decide +kernel
theorem d_Shelves_bodyOn_0 : decode prog_11_method_4_code 0 = .ok (.iload_n 1, 1) := by decide +kernel
theorem d_Shelves_bodyOn_1 : decode prog_11_method_4_code 1 = .ok (.invokestatic 29, 3) := by decide +kernel
theorem d_Shelves_bodyOn_4 : decode prog_11_method_4_code 4 = .ok (.ifCond .eq 12, 3) := by decide +kernel
theorem d_Shelves_bodyOn_7 : decode prog_11_method_4_code 7 = .ok (.aload_n 0, 1) := by decide +kernel
theorem d_Shelves_bodyOn_8 : decode prog_11_method_4_code 8 = .ok (.getfield 9, 3) := by decide +kernel
theorem d_Shelves_bodyOn_11 : decode prog_11_method_4_code 11 = .ok (.iload_n 1, 1) := by decide +kernel
theorem d_Shelves_bodyOn_12 : decode prog_11_method_4_code 12 = .ok (.iaload, 1) := by decide +kernel
theorem d_Shelves_bodyOn_13 : decode prog_11_method_4_code 13 = .ok (.goto 4, 3) := by decide +kernel
theorem d_Shelves_bodyOn_16 : decode prog_11_method_4_code 16 = .ok (.iconst (-1), 1) := by decide +kernel
theorem d_Shelves_bodyOn_17 : decode prog_11_method_4_code 17 = .ok (.ireturn, 1) := by decide +kernel
theorem d_Shelves_holdsRow_0 : decode prog_11_method_5_code 0 = .ok (.iload_n 1, 1) := by decide +kernel
theorem d_Shelves_holdsRow_1 : decode prog_11_method_5_code 1 = .ok (.invokestatic 29, 3) := by decide +kernel
theorem d_Shelves_holdsRow_4 : decode prog_11_method_5_code 4 = .ok (.ifCond .eq 17, 3) := by decide +kernel
theorem d_Shelves_holdsRow_7 : decode prog_11_method_5_code 7 = .ok (.aload_n 0, 1) := by decide +kernel
theorem d_Shelves_holdsRow_8 : decode prog_11_method_5_code 8 = .ok (.getfield 13, 3) := by decide +kernel
theorem d_Shelves_holdsRow_11 : decode prog_11_method_5_code 11 = .ok (.iload_n 1, 1) := by decide +kernel
theorem d_Shelves_holdsRow_12 : decode prog_11_method_5_code 12 = .ok (.iaload, 1) := by decide +kernel
theorem d_Shelves_holdsRow_13 : decode prog_11_method_5_code 13 = .ok (.iload_n 2, 1) := by decide +kernel
theorem d_Shelves_holdsRow_14 : decode prog_11_method_5_code 14 = .ok (.if_icmp .ne 7, 3) := by decide +kernel
theorem d_Shelves_holdsRow_17 : decode prog_11_method_5_code 17 = .ok (.iconst 1, 1) := by decide +kernel
theorem d_Shelves_holdsRow_18 : decode prog_11_method_5_code 18 = .ok (.goto 4, 3) := by decide +kernel
theorem d_Shelves_holdsRow_21 : decode prog_11_method_5_code 21 = .ok (.iconst 0, 1) := by decide +kernel
theorem d_Shelves_holdsRow_22 : decode prog_11_method_5_code 22 = .ok (.ireturn, 1) := by decide +kernel
theorem d_Shelves_holdsLikeRows_0 : decode prog_11_method_6_code 0 = .ok (.iload_n 1, 1) := by decide +kernel
theorem d_Shelves_holdsLikeRows_1 : decode prog_11_method_6_code 1 = .ok (.invokestatic 29, 3) := by decide +kernel
theorem d_Shelves_holdsLikeRows_4 : decode prog_11_method_6_code 4 = .ok (.ifCond .eq 39, 3) := by decide +kernel
theorem d_Shelves_holdsLikeRows_7 : decode prog_11_method_6_code 7 = .ok (.iload_n 2, 1) := by decide +kernel
theorem d_Shelves_holdsLikeRows_8 : decode prog_11_method_6_code 8 = .ok (.invokestatic 29, 3) := by decide +kernel
theorem d_Shelves_holdsLikeRows_11 : decode prog_11_method_6_code 11 = .ok (.ifCond .eq 32, 3) := by decide +kernel
theorem d_Shelves_holdsLikeRows_14 : decode prog_11_method_6_code 14 = .ok (.aload_n 0, 1) := by decide +kernel
theorem d_Shelves_holdsLikeRows_15 : decode prog_11_method_6_code 15 = .ok (.getfield 13, 3) := by decide +kernel
theorem d_Shelves_holdsLikeRows_18 : decode prog_11_method_6_code 18 = .ok (.iload_n 1, 1) := by decide +kernel
theorem d_Shelves_holdsLikeRows_19 : decode prog_11_method_6_code 19 = .ok (.iaload, 1) := by decide +kernel
theorem d_Shelves_holdsLikeRows_20 : decode prog_11_method_6_code 20 = .ok (.iconst (-1), 1) := by decide +kernel
theorem d_Shelves_holdsLikeRows_21 : decode prog_11_method_6_code 21 = .ok (.if_icmp .eq 22, 3) := by decide +kernel
theorem d_Shelves_holdsLikeRows_24 : decode prog_11_method_6_code 24 = .ok (.aload_n 0, 1) := by decide +kernel
theorem d_Shelves_holdsLikeRows_25 : decode prog_11_method_6_code 25 = .ok (.getfield 13, 3) := by decide +kernel
theorem d_Shelves_holdsLikeRows_28 : decode prog_11_method_6_code 28 = .ok (.iload_n 1, 1) := by decide +kernel
theorem d_Shelves_holdsLikeRows_29 : decode prog_11_method_6_code 29 = .ok (.iaload, 1) := by decide +kernel
theorem d_Shelves_holdsLikeRows_30 : decode prog_11_method_6_code 30 = .ok (.aload_n 0, 1) := by decide +kernel
theorem d_Shelves_holdsLikeRows_31 : decode prog_11_method_6_code 31 = .ok (.getfield 13, 3) := by decide +kernel
theorem d_Shelves_holdsLikeRows_34 : decode prog_11_method_6_code 34 = .ok (.iload_n 2, 1) := by decide +kernel
theorem d_Shelves_holdsLikeRows_35 : decode prog_11_method_6_code 35 = .ok (.iaload, 1) := by decide +kernel
theorem d_Shelves_holdsLikeRows_36 : decode prog_11_method_6_code 36 = .ok (.if_icmp .ne 7, 3) := by decide +kernel
theorem d_Shelves_holdsLikeRows_39 : decode prog_11_method_6_code 39 = .ok (.iconst 1, 1) := by decide +kernel
theorem d_Shelves_holdsLikeRows_40 : decode prog_11_method_6_code 40 = .ok (.goto 4, 3) := by decide +kernel
theorem d_Shelves_holdsLikeRows_43 : decode prog_11_method_6_code 43 = .ok (.iconst 0, 1) := by decide +kernel
theorem d_Shelves_holdsLikeRows_44 : decode prog_11_method_6_code 44 = .ok (.ireturn, 1) := by decide +kernel
theorem d_Shelves_sizeOf_0 : decode prog_11_method_7_code 0 = .ok (.iload_n 1, 1) := by decide +kernel
theorem d_Shelves_sizeOf_1 : decode prog_11_method_7_code 1 = .ok (.invokestatic 29, 3) := by decide +kernel
theorem d_Shelves_sizeOf_4 : decode prog_11_method_7_code 4 = .ok (.ifCond .eq 22, 3) := by decide +kernel
theorem d_Shelves_sizeOf_7 : decode prog_11_method_7_code 7 = .ok (.aload_n 0, 1) := by decide +kernel
theorem d_Shelves_sizeOf_8 : decode prog_11_method_7_code 8 = .ok (.getfield 13, 3) := by decide +kernel
theorem d_Shelves_sizeOf_11 : decode prog_11_method_7_code 11 = .ok (.iload_n 1, 1) := by decide +kernel
theorem d_Shelves_sizeOf_12 : decode prog_11_method_7_code 12 = .ok (.iaload, 1) := by decide +kernel
theorem d_Shelves_sizeOf_13 : decode prog_11_method_7_code 13 = .ok (.iconst (-1), 1) := by decide +kernel
theorem d_Shelves_sizeOf_14 : decode prog_11_method_7_code 14 = .ok (.if_icmp .eq 12, 3) := by decide +kernel
theorem d_Shelves_sizeOf_17 : decode prog_11_method_7_code 17 = .ok (.aload_n 0, 1) := by decide +kernel
theorem d_Shelves_sizeOf_18 : decode prog_11_method_7_code 18 = .ok (.getfield 16, 3) := by decide +kernel
theorem d_Shelves_sizeOf_21 : decode prog_11_method_7_code 21 = .ok (.iload_n 1, 1) := by decide +kernel
theorem d_Shelves_sizeOf_22 : decode prog_11_method_7_code 22 = .ok (.iaload, 1) := by decide +kernel
theorem d_Shelves_sizeOf_23 : decode prog_11_method_7_code 23 = .ok (.goto 4, 3) := by decide +kernel
theorem d_Shelves_sizeOf_26 : decode prog_11_method_7_code 26 = .ok (.iconst 0, 1) := by decide +kernel
theorem d_Shelves_sizeOf_27 : decode prog_11_method_7_code 27 = .ok (.ireturn, 1) := by decide +kernel
theorem d_Shelves_isPlace_0 : decode prog_11_method_8_code 0 = .ok (.iload_n 2, 1) := by decide +kernel
theorem d_Shelves_isPlace_1 : decode prog_11_method_8_code 1 = .ok (.ifCond .lt 16, 3) := by decide +kernel
theorem d_Shelves_isPlace_4 : decode prog_11_method_8_code 4 = .ok (.iload_n 2, 1) := by decide +kernel
theorem d_Shelves_isPlace_5 : decode prog_11_method_8_code 5 = .ok (.aload_n 0, 1) := by decide +kernel
theorem d_Shelves_isPlace_6 : decode prog_11_method_8_code 6 = .ok (.iload_n 1, 1) := by decide +kernel
theorem d_Shelves_isPlace_7 : decode prog_11_method_8_code 7 = .ok (.invokevirtual 33, 3) := by decide +kernel
theorem d_Shelves_isPlace_10 : decode prog_11_method_8_code 10 = .ok (.if_icmp .ge 7, 3) := by decide +kernel
theorem d_Shelves_isPlace_13 : decode prog_11_method_8_code 13 = .ok (.iconst 1, 1) := by decide +kernel
theorem d_Shelves_isPlace_14 : decode prog_11_method_8_code 14 = .ok (.goto 4, 3) := by decide +kernel
theorem d_Shelves_isPlace_17 : decode prog_11_method_8_code 17 = .ok (.iconst 0, 1) := by decide +kernel
theorem d_Shelves_isPlace_18 : decode prog_11_method_8_code 18 = .ok (.ireturn, 1) := by decide +kernel
theorem d_Shelves_isSpan_0 : decode prog_11_method_9_code 0 = .ok (.aload_n 0, 1) := by decide +kernel
theorem d_Shelves_isSpan_1 : decode prog_11_method_9_code 1 = .ok (.iload_n 1, 1) := by decide +kernel
theorem d_Shelves_isSpan_2 : decode prog_11_method_9_code 2 = .ok (.invokevirtual 33, 3) := by decide +kernel
theorem d_Shelves_isSpan_5 : decode prog_11_method_9_code 5 = .ok (.istore 4, 2) := by decide +kernel
theorem d_Shelves_isSpan_7 : decode prog_11_method_9_code 7 = .ok (.iload_n 3, 1) := by decide +kernel
theorem d_Shelves_isSpan_8 : decode prog_11_method_9_code 8 = .ok (.ifCond .lt 25, 3) := by decide +kernel
theorem d_Shelves_isSpan_11 : decode prog_11_method_9_code 11 = .ok (.iload_n 2, 1) := by decide +kernel
theorem d_Shelves_isSpan_12 : decode prog_11_method_9_code 12 = .ok (.ifCond .lt 21, 3) := by decide +kernel
theorem d_Shelves_isSpan_15 : decode prog_11_method_9_code 15 = .ok (.iload_n 2, 1) := by decide +kernel
theorem d_Shelves_isSpan_16 : decode prog_11_method_9_code 16 = .ok (.iload 4, 2) := by decide +kernel
theorem d_Shelves_isSpan_18 : decode prog_11_method_9_code 18 = .ok (.if_icmp .gt 15, 3) := by decide +kernel
theorem d_Shelves_isSpan_21 : decode prog_11_method_9_code 21 = .ok (.iload_n 3, 1) := by decide +kernel
theorem d_Shelves_isSpan_22 : decode prog_11_method_9_code 22 = .ok (.iload 4, 2) := by decide +kernel
theorem d_Shelves_isSpan_24 : decode prog_11_method_9_code 24 = .ok (.iload_n 2, 1) := by decide +kernel
theorem d_Shelves_isSpan_25 : decode prog_11_method_9_code 25 = .ok (.isub, 1) := by decide +kernel
theorem d_Shelves_isSpan_26 : decode prog_11_method_9_code 26 = .ok (.if_icmp .gt 7, 3) := by decide +kernel
theorem d_Shelves_isSpan_29 : decode prog_11_method_9_code 29 = .ok (.iconst 1, 1) := by decide +kernel
theorem d_Shelves_isSpan_30 : decode prog_11_method_9_code 30 = .ok (.goto 4, 3) := by decide +kernel
theorem d_Shelves_isSpan_33 : decode prog_11_method_9_code 33 = .ok (.iconst 0, 1) := by decide +kernel
theorem d_Shelves_isSpan_34 : decode prog_11_method_9_code 34 = .ok (.ireturn, 1) := by decide +kernel
theorem d_Shelves_holds_0 : decode prog_11_method_10_code 0 = .ok (.iload_n 1, 1) := by decide +kernel
theorem d_Shelves_holds_1 : decode prog_11_method_10_code 1 = .ok (.invokestatic 29, 3) := by decide +kernel
theorem d_Shelves_holds_4 : decode prog_11_method_10_code 4 = .ok (.ifCond .ne 4, 3) := by decide +kernel
theorem d_Shelves_holds_7 : decode prog_11_method_10_code 7 = .ok (.return_, 1) := by decide +kernel
theorem d_Shelves_holds_8 : decode prog_11_method_10_code 8 = .ok (.aload_n 0, 1) := by decide +kernel
theorem d_Shelves_holds_9 : decode prog_11_method_10_code 9 = .ok (.getfield 9, 3) := by decide +kernel
theorem d_Shelves_holds_12 : decode prog_11_method_10_code 12 = .ok (.iload_n 1, 1) := by decide +kernel
theorem d_Shelves_holds_13 : decode prog_11_method_10_code 13 = .ok (.iload_n 2, 1) := by decide +kernel
theorem d_Shelves_holds_14 : decode prog_11_method_10_code 14 = .ok (.iastore, 1) := by decide +kernel
theorem d_Shelves_holds_15 : decode prog_11_method_10_code 15 = .ok (.aload_n 0, 1) := by decide +kernel
theorem d_Shelves_holds_16 : decode prog_11_method_10_code 16 = .ok (.getfield 13, 3) := by decide +kernel
theorem d_Shelves_holds_19 : decode prog_11_method_10_code 19 = .ok (.iload_n 1, 1) := by decide +kernel
theorem d_Shelves_holds_20 : decode prog_11_method_10_code 20 = .ok (.iconst (-1), 1) := by decide +kernel
theorem d_Shelves_holds_21 : decode prog_11_method_10_code 21 = .ok (.iastore, 1) := by decide +kernel
theorem d_Shelves_holds_22 : decode prog_11_method_10_code 22 = .ok (.return_, 1) := by decide +kernel
theorem d_Shelves_lays_0 : decode prog_11_method_11_code 0 = .ok (.iload_n 1, 1) := by decide +kernel
theorem d_Shelves_lays_1 : decode prog_11_method_11_code 1 = .ok (.invokestatic 29, 3) := by decide +kernel
theorem d_Shelves_lays_4 : decode prog_11_method_11_code 4 = .ok (.ifCond .eq 13, 3) := by decide +kernel
theorem d_Shelves_lays_7 : decode prog_11_method_11_code 7 = .ok (.iload_n 3, 1) := by decide +kernel
theorem d_Shelves_lays_8 : decode prog_11_method_11_code 8 = .ok (.ifCond .lt 9, 3) := by decide +kernel
theorem d_Shelves_lays_11 : decode prog_11_method_11_code 11 = .ok (.iload_n 3, 1) := by decide +kernel
theorem d_Shelves_lays_12 : decode prog_11_method_11_code 12 = .ok (.bipush 60, 2) := by decide +kernel
theorem d_Shelves_lays_14 : decode prog_11_method_11_code 14 = .ok (.if_icmp .le 4, 3) := by decide +kernel
theorem d_Shelves_lays_17 : decode prog_11_method_11_code 17 = .ok (.return_, 1) := by decide +kernel
theorem d_Shelves_lays_18 : decode prog_11_method_11_code 18 = .ok (.aload_n 0, 1) := by decide +kernel
theorem d_Shelves_lays_19 : decode prog_11_method_11_code 19 = .ok (.getfield 9, 3) := by decide +kernel
theorem d_Shelves_lays_22 : decode prog_11_method_11_code 22 = .ok (.iload_n 1, 1) := by decide +kernel
theorem d_Shelves_lays_23 : decode prog_11_method_11_code 23 = .ok (.iconst (-1), 1) := by decide +kernel
theorem d_Shelves_lays_24 : decode prog_11_method_11_code 24 = .ok (.iastore, 1) := by decide +kernel
theorem d_Shelves_lays_25 : decode prog_11_method_11_code 25 = .ok (.aload_n 0, 1) := by decide +kernel
theorem d_Shelves_lays_26 : decode prog_11_method_11_code 26 = .ok (.getfield 13, 3) := by decide +kernel
theorem d_Shelves_lays_29 : decode prog_11_method_11_code 29 = .ok (.iload_n 1, 1) := by decide +kernel
theorem d_Shelves_lays_30 : decode prog_11_method_11_code 30 = .ok (.iload_n 2, 1) := by decide +kernel
theorem d_Shelves_lays_31 : decode prog_11_method_11_code 31 = .ok (.iastore, 1) := by decide +kernel
theorem d_Shelves_lays_32 : decode prog_11_method_11_code 32 = .ok (.aload_n 0, 1) := by decide +kernel
theorem d_Shelves_lays_33 : decode prog_11_method_11_code 33 = .ok (.getfield 16, 3) := by decide +kernel
theorem d_Shelves_lays_36 : decode prog_11_method_11_code 36 = .ok (.iload_n 1, 1) := by decide +kernel
theorem d_Shelves_lays_37 : decode prog_11_method_11_code 37 = .ok (.iload_n 3, 1) := by decide +kernel
theorem d_Shelves_lays_38 : decode prog_11_method_11_code 38 = .ok (.iastore, 1) := by decide +kernel
theorem d_Shelves_lays_39 : decode prog_11_method_11_code 39 = .ok (.aload_n 0, 1) := by decide +kernel
theorem d_Shelves_lays_40 : decode prog_11_method_11_code 40 = .ok (.getfield 19, 3) := by decide +kernel
theorem d_Shelves_lays_43 : decode prog_11_method_11_code 43 = .ok (.iload_n 1, 1) := by decide +kernel
theorem d_Shelves_lays_44 : decode prog_11_method_11_code 44 = .ok (.bipush 60, 2) := by decide +kernel
theorem d_Shelves_lays_46 : decode prog_11_method_11_code 46 = .ok (.imul, 1) := by decide +kernel
theorem d_Shelves_lays_47 : decode prog_11_method_11_code 47 = .ok (.iload_n 1, 1) := by decide +kernel
theorem d_Shelves_lays_48 : decode prog_11_method_11_code 48 = .ok (.bipush 60, 2) := by decide +kernel
theorem d_Shelves_lays_50 : decode prog_11_method_11_code 50 = .ok (.imul, 1) := by decide +kernel
theorem d_Shelves_lays_51 : decode prog_11_method_11_code 51 = .ok (.iload_n 3, 1) := by decide +kernel
theorem d_Shelves_lays_52 : decode prog_11_method_11_code 52 = .ok (.iadd, 1) := by decide +kernel
theorem d_Shelves_lays_53 : decode prog_11_method_11_code 53 = .ok (.lconst 0, 1) := by decide +kernel
theorem d_Shelves_lays_54 : decode prog_11_method_11_code 54 = .ok (.invokestatic 37, 3) := by decide +kernel
theorem d_Shelves_lays_57 : decode prog_11_method_11_code 57 = .ok (.return_, 1) := by decide +kernel
theorem d_Shelves_cell_0 : decode prog_11_method_12_code 0 = .ok (.aload_n 0, 1) := by decide +kernel
theorem d_Shelves_cell_1 : decode prog_11_method_12_code 1 = .ok (.iload_n 1, 1) := by decide +kernel
theorem d_Shelves_cell_2 : decode prog_11_method_12_code 2 = .ok (.iload_n 2, 1) := by decide +kernel
theorem d_Shelves_cell_3 : decode prog_11_method_12_code 3 = .ok (.invokevirtual 40, 3) := by decide +kernel
theorem d_Shelves_cell_6 : decode prog_11_method_12_code 6 = .ok (.ifCond .eq 17, 3) := by decide +kernel
theorem d_Shelves_cell_9 : decode prog_11_method_12_code 9 = .ok (.aload_n 0, 1) := by decide +kernel
theorem d_Shelves_cell_10 : decode prog_11_method_12_code 10 = .ok (.getfield 19, 3) := by decide +kernel
theorem d_Shelves_cell_13 : decode prog_11_method_12_code 13 = .ok (.iload_n 1, 1) := by decide +kernel
theorem d_Shelves_cell_14 : decode prog_11_method_12_code 14 = .ok (.bipush 60, 2) := by decide +kernel
theorem d_Shelves_cell_16 : decode prog_11_method_12_code 16 = .ok (.imul, 1) := by decide +kernel
theorem d_Shelves_cell_17 : decode prog_11_method_12_code 17 = .ok (.iload_n 2, 1) := by decide +kernel
theorem d_Shelves_cell_18 : decode prog_11_method_12_code 18 = .ok (.iadd, 1) := by decide +kernel
theorem d_Shelves_cell_19 : decode prog_11_method_12_code 19 = .ok (.laload, 1) := by decide +kernel
theorem d_Shelves_cell_20 : decode prog_11_method_12_code 20 = .ok (.goto 4, 3) := by decide +kernel
theorem d_Shelves_cell_23 : decode prog_11_method_12_code 23 = .ok (.lconst 0, 1) := by decide +kernel
theorem d_Shelves_cell_24 : decode prog_11_method_12_code 24 = .ok (.lreturn, 1) := by decide +kernel
theorem d_Shelves_sets_0 : decode prog_11_method_13_code 0 = .ok (.aload_n 0, 1) := by decide +kernel
theorem d_Shelves_sets_1 : decode prog_11_method_13_code 1 = .ok (.iload_n 1, 1) := by decide +kernel
theorem d_Shelves_sets_2 : decode prog_11_method_13_code 2 = .ok (.iload_n 2, 1) := by decide +kernel
theorem d_Shelves_sets_3 : decode prog_11_method_13_code 3 = .ok (.invokevirtual 40, 3) := by decide +kernel
theorem d_Shelves_sets_6 : decode prog_11_method_13_code 6 = .ok (.ifCond .eq 24, 3) := by decide +kernel
theorem d_Shelves_sets_9 : decode prog_11_method_13_code 9 = .ok (.aload_n 0, 1) := by decide +kernel
theorem d_Shelves_sets_10 : decode prog_11_method_13_code 10 = .ok (.getfield 19, 3) := by decide +kernel
theorem d_Shelves_sets_13 : decode prog_11_method_13_code 13 = .ok (.iload_n 1, 1) := by decide +kernel
theorem d_Shelves_sets_14 : decode prog_11_method_13_code 14 = .ok (.bipush 60, 2) := by decide +kernel
theorem d_Shelves_sets_16 : decode prog_11_method_13_code 16 = .ok (.imul, 1) := by decide +kernel
theorem d_Shelves_sets_17 : decode prog_11_method_13_code 17 = .ok (.iload_n 2, 1) := by decide +kernel
theorem d_Shelves_sets_18 : decode prog_11_method_13_code 18 = .ok (.iadd, 1) := by decide +kernel
theorem d_Shelves_sets_19 : decode prog_11_method_13_code 19 = .ok (.aload_n 0, 1) := by decide +kernel
theorem d_Shelves_sets_20 : decode prog_11_method_13_code 20 = .ok (.getfield 13, 3) := by decide +kernel
theorem d_Shelves_sets_23 : decode prog_11_method_13_code 23 = .ok (.iload_n 1, 1) := by decide +kernel
theorem d_Shelves_sets_24 : decode prog_11_method_13_code 24 = .ok (.iaload, 1) := by decide +kernel
theorem d_Shelves_sets_25 : decode prog_11_method_13_code 25 = .ok (.lload_n 3, 1) := by decide +kernel
theorem d_Shelves_sets_26 : decode prog_11_method_13_code 26 = .ok (.invokestatic 44, 3) := by decide +kernel
theorem d_Shelves_sets_29 : decode prog_11_method_13_code 29 = .ok (.lastore, 1) := by decide +kernel
theorem d_Shelves_sets_30 : decode prog_11_method_13_code 30 = .ok (.return_, 1) := by decide +kernel
theorem d_Shelves_narrowed_0 : decode prog_11_method_14_code 0 = .ok (.iload_n 0, 1) := by decide +kernel
theorem d_Shelves_narrowed_1 : decode prog_11_method_14_code 1 = .ok (.tableswitch 61 0 4 #[35, 40, 45, 61, 49], 35) := by decide +kernel
theorem d_Shelves_narrowed_36 : decode prog_11_method_14_code 36 = .ok (.lload_n 1, 1) := by decide +kernel
theorem d_Shelves_narrowed_37 : decode prog_11_method_14_code 37 = .ok (.l2i, 1) := by decide +kernel
theorem d_Shelves_narrowed_38 : decode prog_11_method_14_code 38 = .ok (.i2b, 1) := by decide +kernel
theorem d_Shelves_narrowed_39 : decode prog_11_method_14_code 39 = .ok (.i2l, 1) := by decide +kernel
theorem d_Shelves_narrowed_40 : decode prog_11_method_14_code 40 = .ok (.lreturn, 1) := by decide +kernel
theorem d_Shelves_narrowed_41 : decode prog_11_method_14_code 41 = .ok (.lload_n 1, 1) := by decide +kernel
theorem d_Shelves_narrowed_42 : decode prog_11_method_14_code 42 = .ok (.l2i, 1) := by decide +kernel
theorem d_Shelves_narrowed_43 : decode prog_11_method_14_code 43 = .ok (.i2s, 1) := by decide +kernel
theorem d_Shelves_narrowed_44 : decode prog_11_method_14_code 44 = .ok (.i2l, 1) := by decide +kernel
theorem d_Shelves_narrowed_45 : decode prog_11_method_14_code 45 = .ok (.lreturn, 1) := by decide +kernel
theorem d_Shelves_narrowed_46 : decode prog_11_method_14_code 46 = .ok (.lload_n 1, 1) := by decide +kernel
theorem d_Shelves_narrowed_47 : decode prog_11_method_14_code 47 = .ok (.l2i, 1) := by decide +kernel
theorem d_Shelves_narrowed_48 : decode prog_11_method_14_code 48 = .ok (.i2l, 1) := by decide +kernel
theorem d_Shelves_narrowed_49 : decode prog_11_method_14_code 49 = .ok (.lreturn, 1) := by decide +kernel
theorem d_Shelves_narrowed_50 : decode prog_11_method_14_code 50 = .ok (.lload_n 1, 1) := by decide +kernel
theorem d_Shelves_narrowed_51 : decode prog_11_method_14_code 51 = .ok (.lconst 0, 1) := by decide +kernel
theorem d_Shelves_narrowed_52 : decode prog_11_method_14_code 52 = .ok (.lcmp, 1) := by decide +kernel
theorem d_Shelves_narrowed_53 : decode prog_11_method_14_code 53 = .ok (.ifCond .eq 7, 3) := by decide +kernel
theorem d_Shelves_narrowed_56 : decode prog_11_method_14_code 56 = .ok (.lconst 1, 1) := by decide +kernel
theorem d_Shelves_narrowed_57 : decode prog_11_method_14_code 57 = .ok (.goto 4, 3) := by decide +kernel
theorem d_Shelves_narrowed_60 : decode prog_11_method_14_code 60 = .ok (.lconst 0, 1) := by decide +kernel
theorem d_Shelves_narrowed_61 : decode prog_11_method_14_code 61 = .ok (.lreturn, 1) := by decide +kernel
theorem d_Shelves_narrowed_62 : decode prog_11_method_14_code 62 = .ok (.lload_n 1, 1) := by decide +kernel
theorem d_Shelves_narrowed_63 : decode prog_11_method_14_code 63 = .ok (.lreturn, 1) := by decide +kernel
theorem d_Shelves_moves_0 : decode prog_11_method_15_code 0 = .ok (.aload_n 0, 1) := by decide +kernel
theorem d_Shelves_moves_1 : decode prog_11_method_15_code 1 = .ok (.iload_n 1, 1) := by decide +kernel
theorem d_Shelves_moves_2 : decode prog_11_method_15_code 2 = .ok (.iload_n 2, 1) := by decide +kernel
theorem d_Shelves_moves_3 : decode prog_11_method_15_code 3 = .ok (.iload 5, 2) := by decide +kernel
theorem d_Shelves_moves_5 : decode prog_11_method_15_code 5 = .ok (.invokevirtual 48, 3) := by decide +kernel
theorem d_Shelves_moves_8 : decode prog_11_method_15_code 8 = .ok (.ifCond .eq 41, 3) := by decide +kernel
theorem d_Shelves_moves_11 : decode prog_11_method_15_code 11 = .ok (.aload_n 0, 1) := by decide +kernel
theorem d_Shelves_moves_12 : decode prog_11_method_15_code 12 = .ok (.iload_n 3, 1) := by decide +kernel
theorem d_Shelves_moves_13 : decode prog_11_method_15_code 13 = .ok (.iload 4, 2) := by decide +kernel
theorem d_Shelves_moves_15 : decode prog_11_method_15_code 15 = .ok (.iload 5, 2) := by decide +kernel
theorem d_Shelves_moves_17 : decode prog_11_method_15_code 17 = .ok (.invokevirtual 48, 3) := by decide +kernel
theorem d_Shelves_moves_20 : decode prog_11_method_15_code 20 = .ok (.ifCond .eq 29, 3) := by decide +kernel
theorem d_Shelves_moves_23 : decode prog_11_method_15_code 23 = .ok (.aload_n 0, 1) := by decide +kernel
theorem d_Shelves_moves_24 : decode prog_11_method_15_code 24 = .ok (.getfield 19, 3) := by decide +kernel
theorem d_Shelves_moves_27 : decode prog_11_method_15_code 27 = .ok (.iload_n 1, 1) := by decide +kernel
theorem d_Shelves_moves_28 : decode prog_11_method_15_code 28 = .ok (.bipush 60, 2) := by decide +kernel
theorem d_Shelves_moves_30 : decode prog_11_method_15_code 30 = .ok (.imul, 1) := by decide +kernel
theorem d_Shelves_moves_31 : decode prog_11_method_15_code 31 = .ok (.iload_n 2, 1) := by decide +kernel
theorem d_Shelves_moves_32 : decode prog_11_method_15_code 32 = .ok (.iadd, 1) := by decide +kernel
theorem d_Shelves_moves_33 : decode prog_11_method_15_code 33 = .ok (.aload_n 0, 1) := by decide +kernel
theorem d_Shelves_moves_34 : decode prog_11_method_15_code 34 = .ok (.getfield 19, 3) := by decide +kernel
theorem d_Shelves_moves_37 : decode prog_11_method_15_code 37 = .ok (.iload_n 3, 1) := by decide +kernel
theorem d_Shelves_moves_38 : decode prog_11_method_15_code 38 = .ok (.bipush 60, 2) := by decide +kernel
theorem d_Shelves_moves_40 : decode prog_11_method_15_code 40 = .ok (.imul, 1) := by decide +kernel
theorem d_Shelves_moves_41 : decode prog_11_method_15_code 41 = .ok (.iload 4, 2) := by decide +kernel
theorem d_Shelves_moves_43 : decode prog_11_method_15_code 43 = .ok (.iadd, 1) := by decide +kernel
theorem d_Shelves_moves_44 : decode prog_11_method_15_code 44 = .ok (.iload 5, 2) := by decide +kernel
theorem d_Shelves_moves_46 : decode prog_11_method_15_code 46 = .ok (.invokestatic 52, 3) := by decide +kernel
theorem d_Shelves_moves_49 : decode prog_11_method_15_code 49 = .ok (.return_, 1) := by decide +kernel
theorem d_Wishes_init_0 : decode prog_12_method_1_code 0 = .ok (.aload_n 0, 1) := by decide +kernel
theorem d_Wishes_init_1 : decode prog_12_method_1_code 1 = .ok (.invokespecial 3, 3) := by decide +kernel
theorem d_Wishes_init_4 : decode prog_12_method_1_code 4 = .ok (.aload_n 0, 1) := by decide +kernel
theorem d_Wishes_init_5 : decode prog_12_method_1_code 5 = .ok (.aload_n 1, 1) := by decide +kernel
theorem d_Wishes_init_6 : decode prog_12_method_1_code 6 = .ok (.putfield 9, 3) := by decide +kernel
theorem d_Wishes_init_9 : decode prog_12_method_1_code 9 = .ok (.aload_n 0, 1) := by decide +kernel
theorem d_Wishes_init_10 : decode prog_12_method_1_code 10 = .ok (.aload_n 2, 1) := by decide +kernel
theorem d_Wishes_init_11 : decode prog_12_method_1_code 11 = .ok (.putfield 15, 3) := by decide +kernel
theorem d_Wishes_init_14 : decode prog_12_method_1_code 14 = .ok (.aload_n 0, 1) := by decide +kernel
theorem d_Wishes_init_15 : decode prog_12_method_1_code 15 = .ok (.aload_n 3, 1) := by decide +kernel
theorem d_Wishes_init_16 : decode prog_12_method_1_code 16 = .ok (.putfield 19, 3) := by decide +kernel
theorem d_Wishes_init_19 : decode prog_12_method_1_code 19 = .ok (.return_, 1) := by decide +kernel
theorem d_Wishes_sentAway_0 : decode prog_12_method_2_code 0 = .ok (.aload_n 0, 1) := by decide +kernel
theorem d_Wishes_sentAway_1 : decode prog_12_method_2_code 1 = .ok (.getfield 15, 3) := by decide +kernel
theorem d_Wishes_sentAway_4 : decode prog_12_method_2_code 4 = .ok (.aload_n 0, 1) := by decide +kernel
theorem d_Wishes_sentAway_5 : decode prog_12_method_2_code 5 = .ok (.getfield 9, 3) := by decide +kernel
theorem d_Wishes_sentAway_8 : decode prog_12_method_2_code 8 = .ok (.invokevirtual 23, 3) := by decide +kernel
theorem d_Wishes_sentAway_11 : decode prog_12_method_2_code 11 = .ok (.aload_n 0, 1) := by decide +kernel
theorem d_Wishes_sentAway_12 : decode prog_12_method_2_code 12 = .ok (.getfield 9, 3) := by decide +kernel
theorem d_Wishes_sentAway_15 : decode prog_12_method_2_code 15 = .ok (.iload_n 2, 1) := by decide +kernel
theorem d_Wishes_sentAway_16 : decode prog_12_method_2_code 16 = .ok (.invokevirtual 29, 3) := by decide +kernel
theorem d_Wishes_sentAway_19 : decode prog_12_method_2_code 19 = .ok (.iconst 1, 1) := by decide +kernel
theorem d_Wishes_sentAway_20 : decode prog_12_method_2_code 20 = .ok (.iload_n 1, 1) := by decide +kernel
theorem d_Wishes_sentAway_21 : decode prog_12_method_2_code 21 = .ok (.ishl, 1) := by decide +kernel
theorem d_Wishes_sentAway_22 : decode prog_12_method_2_code 22 = .ok (.iconst (-1), 1) := by decide +kernel
theorem d_Wishes_sentAway_23 : decode prog_12_method_2_code 23 = .ok (.ixor, 1) := by decide +kernel
theorem d_Wishes_sentAway_24 : decode prog_12_method_2_code 24 = .ok (.iand, 1) := by decide +kernel
theorem d_Wishes_sentAway_25 : decode prog_12_method_2_code 25 = .ok (.istore 5, 2) := by decide +kernel
theorem d_Wishes_sentAway_27 : decode prog_12_method_2_code 27 = .ok (.bipush (-2), 2) := by decide +kernel
theorem d_Wishes_sentAway_29 : decode prog_12_method_2_code 29 = .ok (.istore 6, 2) := by decide +kernel
theorem d_Wishes_sentAway_31 : decode prog_12_method_2_code 31 = .ok (.bipush (-2), 2) := by decide +kernel
theorem d_Wishes_sentAway_33 : decode prog_12_method_2_code 33 = .ok (.istore 7, 2) := by decide +kernel
theorem d_Wishes_sentAway_35 : decode prog_12_method_2_code 35 = .ok (.iconst 0, 1) := by decide +kernel
theorem d_Wishes_sentAway_36 : decode prog_12_method_2_code 36 = .ok (.istore 8, 2) := by decide +kernel
theorem d_Wishes_sentAway_38 : decode prog_12_method_2_code 38 = .ok (.iload 8, 2) := by decide +kernel
theorem d_Wishes_sentAway_40 : decode prog_12_method_2_code 40 = .ok (.iload 5, 2) := by decide +kernel
theorem d_Wishes_sentAway_42 : decode prog_12_method_2_code 42 = .ok (.if_icmp .gt 114, 3) := by decide +kernel
theorem d_Wishes_sentAway_45 : decode prog_12_method_2_code 45 = .ok (.iload 8, 2) := by decide +kernel
theorem d_Wishes_sentAway_47 : decode prog_12_method_2_code 47 = .ok (.iload 5, 2) := by decide +kernel
theorem d_Wishes_sentAway_49 : decode prog_12_method_2_code 49 = .ok (.iconst (-1), 1) := by decide +kernel
theorem d_Wishes_sentAway_50 : decode prog_12_method_2_code 50 = .ok (.ixor, 1) := by decide +kernel
theorem d_Wishes_sentAway_51 : decode prog_12_method_2_code 51 = .ok (.iand, 1) := by decide +kernel
theorem d_Wishes_sentAway_52 : decode prog_12_method_2_code 52 = .ok (.ifCond .eq 6, 3) := by decide +kernel
theorem d_Wishes_sentAway_55 : decode prog_12_method_2_code 55 = .ok (.goto 95, 3) := by decide +kernel
theorem d_Wishes_sentAway_58 : decode prog_12_method_2_code 58 = .ok (.aload_n 0, 1) := by decide +kernel
theorem d_Wishes_sentAway_59 : decode prog_12_method_2_code 59 = .ok (.getfield 9, 3) := by decide +kernel
theorem d_Wishes_sentAway_62 : decode prog_12_method_2_code 62 = .ok (.iload 8, 2) := by decide +kernel
theorem d_Wishes_sentAway_64 : decode prog_12_method_2_code 64 = .ok (.invokevirtual 35, 3) := by decide +kernel
theorem d_Wishes_sentAway_67 : decode prog_12_method_2_code 67 = .ok (.istore 9, 2) := by decide +kernel
theorem d_Wishes_sentAway_69 : decode prog_12_method_2_code 69 = .ok (.iload 6, 2) := by decide +kernel
theorem d_Wishes_sentAway_71 : decode prog_12_method_2_code 71 = .ok (.bipush (-2), 2) := by decide +kernel
theorem d_Wishes_sentAway_73 : decode prog_12_method_2_code 73 = .ok (.if_icmp .eq 20, 3) := by decide +kernel
theorem d_Wishes_sentAway_76 : decode prog_12_method_2_code 76 = .ok (.iload 9, 2) := by decide +kernel
theorem d_Wishes_sentAway_78 : decode prog_12_method_2_code 78 = .ok (.iload 8, 2) := by decide +kernel
theorem d_Wishes_sentAway_80 : decode prog_12_method_2_code 80 = .ok (.iload 6, 2) := by decide +kernel
theorem d_Wishes_sentAway_82 : decode prog_12_method_2_code 82 = .ok (.iload 7, 2) := by decide +kernel
theorem d_Wishes_sentAway_84 : decode prog_12_method_2_code 84 = .ok (.invokestatic 38, 3) := by decide +kernel
theorem d_Wishes_sentAway_87 : decode prog_12_method_2_code 87 = .ok (.ifCond .ne 6, 3) := by decide +kernel
theorem d_Wishes_sentAway_90 : decode prog_12_method_2_code 90 = .ok (.goto 60, 3) := by decide +kernel
theorem d_Wishes_sentAway_93 : decode prog_12_method_2_code 93 = .ok (.aload_n 0, 1) := by decide +kernel
theorem d_Wishes_sentAway_94 : decode prog_12_method_2_code 94 = .ok (.getfield 15, 3) := by decide +kernel
theorem d_Wishes_sentAway_97 : decode prog_12_method_2_code 97 = .ok (.aload_n 0, 1) := by decide +kernel
theorem d_Wishes_sentAway_98 : decode prog_12_method_2_code 98 = .ok (.getfield 9, 3) := by decide +kernel
theorem d_Wishes_sentAway_101 : decode prog_12_method_2_code 101 = .ok (.invokevirtual 42, 3) := by decide +kernel
theorem d_Wishes_sentAway_104 : decode prog_12_method_2_code 104 = .ok (.iload 8, 2) := by decide +kernel
theorem d_Wishes_sentAway_106 : decode prog_12_method_2_code 106 = .ok (.iconst (-1), 1) := by decide +kernel
theorem d_Wishes_sentAway_107 : decode prog_12_method_2_code 107 = .ok (.ixor, 1) := by decide +kernel
theorem d_Wishes_sentAway_108 : decode prog_12_method_2_code 108 = .ok (.iand, 1) := by decide +kernel
theorem d_Wishes_sentAway_109 : decode prog_12_method_2_code 109 = .ok (.invokevirtual 46, 3) := by decide +kernel
theorem d_Wishes_sentAway_112 : decode prog_12_method_2_code 112 = .ok (.aload_n 0, 1) := by decide +kernel
theorem d_Wishes_sentAway_113 : decode prog_12_method_2_code 113 = .ok (.getfield 15, 3) := by decide +kernel
theorem d_Wishes_sentAway_116 : decode prog_12_method_2_code 116 = .ok (.iload_n 1, 1) := by decide +kernel
theorem d_Wishes_sentAway_117 : decode prog_12_method_2_code 117 = .ok (.iload_n 2, 1) := by decide +kernel
theorem d_Wishes_sentAway_118 : decode prog_12_method_2_code 118 = .ok (.iconst 1, 1) := by decide +kernel
theorem d_Wishes_sentAway_119 : decode prog_12_method_2_code 119 = .ok (.iadd, 1) := by decide +kernel
theorem d_Wishes_sentAway_120 : decode prog_12_method_2_code 120 = .ok (.invokevirtual 50, 3) := by decide +kernel
theorem d_Wishes_sentAway_123 : decode prog_12_method_2_code 123 = .ok (.istore 10, 2) := by decide +kernel
theorem d_Wishes_sentAway_125 : decode prog_12_method_2_code 125 = .ok (.iload 10, 2) := by decide +kernel
theorem d_Wishes_sentAway_127 : decode prog_12_method_2_code 127 = .ok (.iload_n 2, 1) := by decide +kernel
theorem d_Wishes_sentAway_128 : decode prog_12_method_2_code 128 = .ok (.if_icmp .eq 14, 3) := by decide +kernel
theorem d_Wishes_sentAway_131 : decode prog_12_method_2_code 131 = .ok (.iload_n 3, 1) := by decide +kernel
theorem d_Wishes_sentAway_132 : decode prog_12_method_2_code 132 = .ok (.ifCond .eq 18, 3) := by decide +kernel
theorem d_Wishes_sentAway_135 : decode prog_12_method_2_code 135 = .ok (.iload 10, 2) := by decide +kernel
theorem d_Wishes_sentAway_137 : decode prog_12_method_2_code 137 = .ok (.bipush (-2), 2) := by decide +kernel
theorem d_Wishes_sentAway_139 : decode prog_12_method_2_code 139 = .ok (.if_icmp .eq 11, 3) := by decide +kernel
theorem d_Wishes_sentAway_142 : decode prog_12_method_2_code 142 = .ok (.iload 9, 2) := by decide +kernel
theorem d_Wishes_sentAway_144 : decode prog_12_method_2_code 144 = .ok (.istore 6, 2) := by decide +kernel
theorem d_Wishes_sentAway_146 : decode prog_12_method_2_code 146 = .ok (.iload 8, 2) := by decide +kernel
theorem d_Wishes_sentAway_148 : decode prog_12_method_2_code 148 = .ok (.istore 7, 2) := by decide +kernel
theorem d_Wishes_sentAway_150 : decode prog_12_method_2_code 150 = .ok (.iinc 8 1, 3) := by decide +kernel
theorem d_Wishes_sentAway_153 : decode prog_12_method_2_code 153 = .ok (.goto (-115), 3) := by decide +kernel
theorem d_Wishes_sentAway_156 : decode prog_12_method_2_code 156 = .ok (.iload 4, 2) := by decide +kernel
theorem d_Wishes_sentAway_158 : decode prog_12_method_2_code 158 = .ok (.ifCond .ne 8, 3) := by decide +kernel
theorem d_Wishes_sentAway_161 : decode prog_12_method_2_code 161 = .ok (.iload 6, 2) := by decide +kernel
theorem d_Wishes_sentAway_163 : decode prog_12_method_2_code 163 = .ok (.goto 5, 3) := by decide +kernel
theorem d_Wishes_sentAway_166 : decode prog_12_method_2_code 166 = .ok (.iload 7, 2) := by decide +kernel
theorem d_Wishes_sentAway_168 : decode prog_12_method_2_code 168 = .ok (.ireturn, 1) := by decide +kernel
theorem d_Wishes_isBetter_0 : decode prog_12_method_3_code 0 = .ok (.iload_n 0, 1) := by decide +kernel
theorem d_Wishes_isBetter_1 : decode prog_12_method_3_code 1 = .ok (.iload_n 2, 1) := by decide +kernel
theorem d_Wishes_isBetter_2 : decode prog_12_method_3_code 2 = .ok (.if_icmp .lt 19, 3) := by decide +kernel
theorem d_Wishes_isBetter_5 : decode prog_12_method_3_code 5 = .ok (.iload_n 0, 1) := by decide +kernel
theorem d_Wishes_isBetter_6 : decode prog_12_method_3_code 6 = .ok (.iload_n 2, 1) := by decide +kernel
theorem d_Wishes_isBetter_7 : decode prog_12_method_3_code 7 = .ok (.if_icmp .ne 18, 3) := by decide +kernel

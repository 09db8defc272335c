theorem dX6_layOut_280 : decode cX6_layOut 280 = .ok (.iload 4, 2) := by decide +kernel
theorem dX6_layOut_282 : decode cX6_layOut 282 = .ok (.baload, 1) := by decide +kernel
theorem dX6_layOut_283 : decode cX6_layOut 283 = .ok (.ifCond .eq 13, 3) := by decide +kernel
theorem dX6_layOut_286 : decode cX6_layOut 286 = .ok (.aload_n 0, 1) := by decide +kernel
theorem dX6_layOut_287 : decode cX6_layOut 287 = .ok (.getfield 26, 3) := by decide +kernel
theorem dX6_layOut_290 : decode cX6_layOut 290 = .ok (.iload 4, 2) := by decide +kernel
theorem dX6_layOut_292 : decode cX6_layOut 292 = .ok (.laload, 1) := by decide +kernel
theorem dX6_layOut_293 : decode cX6_layOut 293 = .ok (.goto 7, 3) := by decide +kernel
theorem dX6_layOut_296 : decode cX6_layOut 296 = .ok (.aload_n 0, 1) := by decide +kernel
theorem dX6_layOut_297 : decode cX6_layOut 297 = .ok (.getfield 86, 3) := by decide +kernel
theorem dX6_layOut_300 : decode cX6_layOut 300 = .ok (.lastore, 1) := by decide +kernel
theorem dX6_layOut_301 : decode cX6_layOut 301 = .ok (.aload_n 0, 1) := by decide +kernel
theorem dX6_layOut_302 : decode cX6_layOut 302 = .ok (.getfield 29, 3) := by decide +kernel
theorem dX6_layOut_305 : decode cX6_layOut 305 = .ok (.iload 4, 2) := by decide +kernel
theorem dX6_layOut_307 : decode cX6_layOut 307 = .ok (.iconst 1, 1) := by decide +kernel
theorem dX6_layOut_308 : decode cX6_layOut 308 = .ok (.bastore, 1) := by decide +kernel
theorem dX6_layOut_309 : decode cX6_layOut 309 = .ok (.iinc 2 1, 3) := by decide +kernel
theorem dX6_layOut_312 : decode cX6_layOut 312 = .ok (.goto (-234), 3) := by decide +kernel
theorem dX6_layOut_315 : decode cX6_layOut 315 = .ok (.goto (-245), 3) := by decide +kernel
theorem dX6_layOut_318 : decode cX6_layOut 318 = .ok (.iconst 0, 1) := by decide +kernel
theorem dX6_layOut_319 : decode cX6_layOut 319 = .ok (.istore_n 2, 1) := by decide +kernel
theorem dX6_layOut_320 : decode cX6_layOut 320 = .ok (.iload_n 2, 1) := by decide +kernel
theorem dX6_layOut_321 : decode cX6_layOut 321 = .ok (.bipush 9, 2) := by decide +kernel
theorem dX6_layOut_323 : decode cX6_layOut 323 = .ok (.if_icmp .ge 30, 3) := by decide +kernel
theorem dX6_layOut_326 : decode cX6_layOut 326 = .ok (.aload_n 0, 1) := by decide +kernel
theorem dX6_layOut_327 : decode cX6_layOut 327 = .ok (.getfield 89, 3) := by decide +kernel
theorem dX6_layOut_330 : decode cX6_layOut 330 = .ok (.ifCond .eq 23, 3) := by decide +kernel
theorem dX6_layOut_333 : decode cX6_layOut 333 = .ok (.aload_n 0, 1) := by decide +kernel
theorem dX6_layOut_334 : decode cX6_layOut 334 = .ok (.getfield 22, 3) := by decide +kernel
theorem dX6_layOut_337 : decode cX6_layOut 337 = .ok (.iload_n 2, 1) := by decide +kernel
theorem dX6_layOut_338 : decode cX6_layOut 338 = .ok (.lconst 0, 1) := by decide +kernel
theorem dX6_layOut_339 : decode cX6_layOut 339 = .ok (.lastore, 1) := by decide +kernel
theorem dX6_layOut_340 : decode cX6_layOut 340 = .ok (.aload_n 0, 1) := by decide +kernel
theorem dX6_layOut_341 : decode cX6_layOut 341 = .ok (.getfield 26, 3) := by decide +kernel
theorem dX6_layOut_344 : decode cX6_layOut 344 = .ok (.iload_n 2, 1) := by decide +kernel
theorem dX6_layOut_345 : decode cX6_layOut 345 = .ok (.lconst 1, 1) := by decide +kernel
theorem dX6_layOut_346 : decode cX6_layOut 346 = .ok (.lastore, 1) := by decide +kernel
theorem dX6_layOut_347 : decode cX6_layOut 347 = .ok (.iinc 2 1, 3) := by decide +kernel
theorem dX6_layOut_350 : decode cX6_layOut 350 = .ok (.goto (-30), 3) := by decide +kernel
theorem dX6_layOut_353 : decode cX6_layOut 353 = .ok (.return_, 1) := by decide +kernel
theorem dX6_joined_0 : decode cX6_joined 0 = .ok (.iconst 0, 1) := by decide +kernel
theorem dX6_joined_1 : decode cX6_joined 1 = .ok (.istore_n 1, 1) := by decide +kernel
theorem dX6_joined_2 : decode cX6_joined 2 = .ok (.iconst 0, 1) := by decide +kernel
theorem dX6_joined_3 : decode cX6_joined 3 = .ok (.istore_n 2, 1) := by decide +kernel
theorem dX6_joined_4 : decode cX6_joined 4 = .ok (.iload_n 2, 1) := by decide +kernel
theorem dX6_joined_5 : decode cX6_joined 5 = .ok (.bipush 9, 2) := by decide +kernel
theorem dX6_joined_7 : decode cX6_joined 7 = .ok (.if_icmp .ge 26, 3) := by decide +kernel
theorem dX6_joined_10 : decode cX6_joined 10 = .ok (.iload_n 1, 1) := by decide +kernel
theorem dX6_joined_11 : decode cX6_joined 11 = .ok (.aload_n 0, 1) := by decide +kernel
theorem dX6_joined_12 : decode cX6_joined 12 = .ok (.getfield 29, 3) := by decide +kernel
theorem dX6_joined_15 : decode cX6_joined 15 = .ok (.iload_n 2, 1) := by decide +kernel
theorem dX6_joined_16 : decode cX6_joined 16 = .ok (.baload, 1) := by decide +kernel
theorem dX6_joined_17 : decode cX6_joined 17 = .ok (.ifCond .eq 7, 3) := by decide +kernel
theorem dX6_joined_20 : decode cX6_joined 20 = .ok (.iconst 1, 1) := by decide +kernel
theorem dX6_joined_21 : decode cX6_joined 21 = .ok (.goto 4, 3) := by decide +kernel
theorem dX6_joined_24 : decode cX6_joined 24 = .ok (.iconst 0, 1) := by decide +kernel
theorem dX6_joined_25 : decode cX6_joined 25 = .ok (.iadd, 1) := by decide +kernel
theorem dX6_joined_26 : decode cX6_joined 26 = .ok (.istore_n 1, 1) := by decide +kernel
theorem dX6_joined_27 : decode cX6_joined 27 = .ok (.iinc 2 1, 3) := by decide +kernel
theorem dX6_joined_30 : decode cX6_joined 30 = .ok (.goto (-26), 3) := by decide +kernel
theorem dX6_joined_33 : decode cX6_joined 33 = .ok (.iload_n 1, 1) := by decide +kernel
theorem dX6_joined_34 : decode cX6_joined 34 = .ok (.ireturn, 1) := by decide +kernel
theorem dX6_isReached_0 : decode cX6_isReached 0 = .ok (.aload_n 0, 1) := by decide +kernel
theorem dX6_isReached_1 : decode cX6_isReached 1 = .ok (.getfield 7, 3) := by decide +kernel
theorem dX6_isReached_4 : decode cX6_isReached 4 = .ok (.bipush 56, 2) := by decide +kernel
theorem dX6_isReached_6 : decode cX6_isReached 6 = .ok (.iaload, 1) := by decide +kernel
theorem dX6_isReached_7 : decode cX6_isReached 7 = .ok (.istore_n 1, 1) := by decide +kernel
theorem dX6_isReached_8 : decode cX6_isReached 8 = .ok (.iload_n 1, 1) := by decide +kernel
theorem dX6_isReached_9 : decode cX6_isReached 9 = .ok (.iconst (-1), 1) := by decide +kernel
theorem dX6_isReached_10 : decode cX6_isReached 10 = .ok (.if_icmp .eq 43, 3) := by decide +kernel
theorem dX6_isReached_13 : decode cX6_isReached 13 = .ok (.aload_n 0, 1) := by decide +kernel
theorem dX6_isReached_14 : decode cX6_isReached 14 = .ok (.getfield 22, 3) := by decide +kernel
theorem dX6_isReached_17 : decode cX6_isReached 17 = .ok (.iload_n 1, 1) := by decide +kernel
theorem dX6_isReached_18 : decode cX6_isReached 18 = .ok (.laload, 1) := by decide +kernel
theorem dX6_isReached_19 : decode cX6_isReached 19 = .ok (.aload_n 0, 1) := by decide +kernel
theorem dX6_isReached_20 : decode cX6_isReached 20 = .ok (.getfield 7, 3) := by decide +kernel
theorem dX6_isReached_23 : decode cX6_isReached 23 = .ok (.bipush 57, 2) := by decide +kernel
theorem dX6_isReached_25 : decode cX6_isReached 25 = .ok (.iaload, 1) := by decide +kernel
theorem dX6_isReached_26 : decode cX6_isReached 26 = .ok (.i2l, 1) := by decide +kernel
theorem dX6_isReached_27 : decode cX6_isReached 27 = .ok (.lcmp, 1) := by decide +kernel
theorem dX6_isReached_28 : decode cX6_isReached 28 = .ok (.ifCond .ne 25, 3) := by decide +kernel
theorem dX6_isReached_31 : decode cX6_isReached 31 = .ok (.aload_n 0, 1) := by decide +kernel
theorem dX6_isReached_32 : decode cX6_isReached 32 = .ok (.getfield 26, 3) := by decide +kernel
theorem dX6_isReached_35 : decode cX6_isReached 35 = .ok (.iload_n 1, 1) := by decide +kernel
theorem dX6_isReached_36 : decode cX6_isReached 36 = .ok (.laload, 1) := by decide +kernel
theorem dX6_isReached_37 : decode cX6_isReached 37 = .ok (.aload_n 0, 1) := by decide +kernel
theorem dX6_isReached_38 : decode cX6_isReached 38 = .ok (.getfield 7, 3) := by decide +kernel
theorem dX6_isReached_41 : decode cX6_isReached 41 = .ok (.bipush 58, 2) := by decide +kernel
theorem dX6_isReached_43 : decode cX6_isReached 43 = .ok (.iaload, 1) := by decide +kernel
theorem dX6_isReached_44 : decode cX6_isReached 44 = .ok (.i2l, 1) := by decide +kernel
theorem dX6_isReached_45 : decode cX6_isReached 45 = .ok (.lcmp, 1) := by decide +kernel
theorem dX6_isReached_46 : decode cX6_isReached 46 = .ok (.ifCond .ne 7, 3) := by decide +kernel
theorem dX6_isReached_49 : decode cX6_isReached 49 = .ok (.iconst 1, 1) := by decide +kernel
theorem dX6_isReached_50 : decode cX6_isReached 50 = .ok (.goto 4, 3) := by decide +kernel
theorem dX6_isReached_53 : decode cX6_isReached 53 = .ok (.iconst 0, 1) := by decide +kernel
theorem dX6_isReached_54 : decode cX6_isReached 54 = .ok (.ireturn, 1) := by decide +kernel
theorem dX6_pegAt_0 : decode cX6_pegAt 0 = .ok (.iconst (-1), 1) := by decide +kernel
theorem dX6_pegAt_1 : decode cX6_pegAt 1 = .ok (.istore_n 3, 1) := by decide +kernel
theorem dX6_pegAt_2 : decode cX6_pegAt 2 = .ok (.iconst 0, 1) := by decide +kernel
theorem dX6_pegAt_3 : decode cX6_pegAt 3 = .ok (.istore 4, 2) := by decide +kernel
theorem dX6_pegAt_5 : decode cX6_pegAt 5 = .ok (.iload 4, 2) := by decide +kernel
theorem dX6_pegAt_7 : decode cX6_pegAt 7 = .ok (.aload_n 0, 1) := by decide +kernel
theorem dX6_pegAt_8 : decode cX6_pegAt 8 = .ok (.getfield 7, 3) := by decide +kernel
theorem dX6_pegAt_11 : decode cX6_pegAt 11 = .ok (.iconst 0, 1) := by decide +kernel
theorem dX6_pegAt_12 : decode cX6_pegAt 12 = .ok (.iaload, 1) := by decide +kernel
theorem dX6_pegAt_13 : decode cX6_pegAt 13 = .ok (.if_icmp .ge 43, 3) := by decide +kernel
theorem dX6_pegAt_16 : decode cX6_pegAt 16 = .ok (.aload_n 0, 1) := by decide +kernel
theorem dX6_pegAt_17 : decode cX6_pegAt 17 = .ok (.getfield 7, 3) := by decide +kernel
theorem dX6_pegAt_20 : decode cX6_pegAt 20 = .ok (.iconst 1, 1) := by decide +kernel
theorem dX6_pegAt_21 : decode cX6_pegAt 21 = .ok (.iload 4, 2) := by decide +kernel
theorem dX6_pegAt_23 : decode cX6_pegAt 23 = .ok (.iadd, 1) := by decide +kernel
theorem dX6_pegAt_24 : decode cX6_pegAt 24 = .ok (.iaload, 1) := by decide +kernel
theorem dX6_pegAt_25 : decode cX6_pegAt 25 = .ok (.iload_n 1, 1) := by decide +kernel
theorem dX6_pegAt_26 : decode cX6_pegAt 26 = .ok (.if_icmp .ne 22, 3) := by decide +kernel
theorem dX6_pegAt_29 : decode cX6_pegAt 29 = .ok (.aload_n 0, 1) := by decide +kernel
theorem dX6_pegAt_30 : decode cX6_pegAt 30 = .ok (.getfield 7, 3) := by decide +kernel
theorem dX6_pegAt_33 : decode cX6_pegAt 33 = .ok (.bipush 10, 2) := by decide +kernel
theorem dX6_pegAt_35 : decode cX6_pegAt 35 = .ok (.iload 4, 2) := by decide +kernel
theorem dX6_pegAt_37 : decode cX6_pegAt 37 = .ok (.iadd, 1) := by decide +kernel
theorem dX6_pegAt_38 : decode cX6_pegAt 38 = .ok (.iaload, 1) := by decide +kernel
theorem dX6_pegAt_39 : decode cX6_pegAt 39 = .ok (.iload_n 2, 1) := by decide +kernel
theorem dX6_pegAt_40 : decode cX6_pegAt 40 = .ok (.if_icmp .ne 8, 3) := by decide +kernel
theorem dX6_pegAt_43 : decode cX6_pegAt 43 = .ok (.iload 4, 2) := by decide +kernel
theorem dX6_pegAt_45 : decode cX6_pegAt 45 = .ok (.goto 4, 3) := by decide +kernel
theorem dX6_pegAt_48 : decode cX6_pegAt 48 = .ok (.iload_n 3, 1) := by decide +kernel
theorem dX6_pegAt_49 : decode cX6_pegAt 49 = .ok (.istore_n 3, 1) := by decide +kernel
theorem dX6_pegAt_50 : decode cX6_pegAt 50 = .ok (.iinc 4 1, 3) := by decide +kernel
theorem dX6_pegAt_53 : decode cX6_pegAt 53 = .ok (.goto (-48), 3) := by decide +kernel
theorem dX6_pegAt_56 : decode cX6_pegAt 56 = .ok (.iload_n 3, 1) := by decide +kernel
theorem dX6_pegAt_57 : decode cX6_pegAt 57 = .ok (.ireturn, 1) := by decide +kernel
set_option maxRecDepth 20000 in
theorem ggX6_isPlace_X6_in : GoodIn wsX6_isPlace wsX6_in := goodIn_r _ [4] (by decide +kernel) (by decide +kernel)
set_option maxRecDepth 20000 in
theorem gX6_isPlace_X6_in : GoodIn wsX6_isPlace (va_wsS RX6 46 yX6_in wsX6_in) := goodIn_app (goodIn_of _ (by decide +kernel)) ggX6_isPlace_X6_in
theorem dX6_isPlace_0 : decode cX6_isPlace 0 = .ok (.iload_n 0, 1) := by decide +kernel
theorem dX6_isPlace_1 : decode cX6_isPlace 1 = .ok (.iconst 0, 1) := by decide +kernel
theorem dX6_isPlace_2 : decode cX6_isPlace 2 = .ok (.bipush 60, 2) := by decide +kernel
theorem dX6_isPlace_4 : decode cX6_isPlace 4 = .ok (.invokestatic 46, 3) := by decide +kernel
theorem dX6_isPlace_7 : decode cX6_isPlace 7 = .ok (.ifCond .eq 17, 3) := by decide +kernel
theorem dX6_isPlace_10 : decode cX6_isPlace 10 = .ok (.iload_n 1, 1) := by decide +kernel
theorem dX6_isPlace_11 : decode cX6_isPlace 11 = .ok (.iconst 0, 1) := by decide +kernel
theorem dX6_isPlace_12 : decode cX6_isPlace 12 = .ok (.bipush 60, 2) := by decide +kernel
theorem dX6_isPlace_14 : decode cX6_isPlace 14 = .ok (.invokestatic 46, 3) := by decide +kernel
theorem dX6_isPlace_17 : decode cX6_isPlace 17 = .ok (.ifCond .eq 7, 3) := by decide +kernel
theorem dX6_isPlace_20 : decode cX6_isPlace 20 = .ok (.iconst 1, 1) := by decide +kernel
theorem dX6_isPlace_21 : decode cX6_isPlace 21 = .ok (.goto 4, 3) := by decide +kernel
theorem dX6_isPlace_24 : decode cX6_isPlace 24 = .ok (.iconst 0, 1) := by decide +kernel
theorem dX6_isPlace_25 : decode cX6_isPlace 25 = .ok (.ireturn, 1) := by decide +kernel
set_option maxRecDepth 20000 in
theorem ggX6_pegFault_X6_isPlace : GoodIn wsX6_pegFault wsX6_isPlace := goodIn_r _ [5, 6, 7, 4, 8] (by decide +kernel) (by decide +kernel)
set_option maxRecDepth 20000 in
theorem gX6_pegFault_X6_isPlace : GoodIn wsX6_pegFault (va_wsS RX6 97 yX6_isPlace wsX6_isPlace) := goodIn_app (goodIn_of _ (by decide +kernel)) ggX6_pegFault_X6_isPlace
set_option maxRecDepth 20000 in
theorem ggX6_pegFault_X6_pegAt : GoodIn wsX6_pegFault wsX6_pegAt := goodIn_r _ [12, 1, 13, 14, 15, 16, 17, 18, 19, 20, 21, 22, 23, 24, 25, 26, 27, 28, 29, 30, 31, 32, 33] (by decide +kernel) (by decide +kernel)
set_option maxRecDepth 20000 in
theorem gX6_pegFault_X6_pegAt : GoodIn wsX6_pegFault (wsV RX6 101 RX6 yX6_pegAt wsX6_pegAt) := goodIn_app (goodIn_of _ (by decide +kernel)) ggX6_pegFault_X6_pegAt
theorem dX6_pegFault_0 : decode cX6_pegFault 0 = .ok (.iload_n 1, 1) := by decide +kernel
theorem dX6_pegFault_1 : decode cX6_pegFault 1 = .ok (.iload_n 2, 1) := by decide +kernel
theorem dX6_pegFault_2 : decode cX6_pegFault 2 = .ok (.invokestatic 97, 3) := by decide +kernel
theorem dX6_pegFault_5 : decode cX6_pegFault 5 = .ok (.ifCond .ne 7, 3) := by decide +kernel
theorem dX6_pegFault_8 : decode cX6_pegFault 8 = .ok (.iconst 1, 1) := by decide +kernel
theorem dX6_pegFault_9 : decode cX6_pegFault 9 = .ok (.goto 29, 3) := by decide +kernel
theorem dX6_pegFault_12 : decode cX6_pegFault 12 = .ok (.aload_n 0, 1) := by decide +kernel
theorem dX6_pegFault_13 : decode cX6_pegFault 13 = .ok (.getfield 7, 3) := by decide +kernel
theorem dX6_pegFault_16 : decode cX6_pegFault 16 = .ok (.iconst 0, 1) := by decide +kernel
theorem dX6_pegFault_17 : decode cX6_pegFault 17 = .ok (.iaload, 1) := by decide +kernel
theorem dX6_pegFault_18 : decode cX6_pegFault 18 = .ok (.bipush 9, 2) := by decide +kernel
theorem dX6_pegFault_20 : decode cX6_pegFault 20 = .ok (.if_icmp .eq 13, 3) := by decide +kernel
theorem dX6_pegFault_23 : decode cX6_pegFault 23 = .ok (.aload_n 0, 1) := by decide +kernel
theorem dX6_pegFault_24 : decode cX6_pegFault 24 = .ok (.iload_n 1, 1) := by decide +kernel
theorem dX6_pegFault_25 : decode cX6_pegFault 25 = .ok (.iload_n 2, 1) := by decide +kernel
theorem dX6_pegFault_26 : decode cX6_pegFault 26 = .ok (.invokevirtual 101, 3) := by decide +kernel
theorem dX6_pegFault_29 : decode cX6_pegFault 29 = .ok (.iconst (-1), 1) := by decide +kernel
theorem dX6_pegFault_30 : decode cX6_pegFault 30 = .ok (.if_icmp .eq 7, 3) := by decide +kernel
theorem dX6_pegFault_33 : decode cX6_pegFault 33 = .ok (.iconst 2, 1) := by decide +kernel
theorem dX6_pegFault_34 : decode cX6_pegFault 34 = .ok (.goto 4, 3) := by decide +kernel
theorem dX6_pegFault_37 : decode cX6_pegFault 37 = .ok (.iconst 0, 1) := by decide +kernel
theorem dX6_pegFault_38 : decode cX6_pegFault 38 = .ok (.ireturn, 1) := by decide +kernel
set_option maxRecDepth 20000 in
theorem ggX6_pegs_X6_put : GoodIn wsX6_pegs wsX6_put := goodIn_r _ [6, 1, 7, 8, 9, 10, 11, 12, 13, 14, 15, 16, 17, 18, 19, 20, 21, 22, 23, 24, 25, 26, 27] (by decide +kernel) (by decide +kernel)
set_option maxRecDepth 20000 in
theorem gX6_pegs_X6_put : GoodIn wsX6_pegs (wsV RX6 104 RX6 yX6_put wsX6_put) := goodIn_app (goodIn_of _ (by decide +kernel)) ggX6_pegs_X6_put
theorem dX6_pegs_0 : decode cX6_pegs 0 = .ok (.aload_n 0, 1) := by decide +kernel
theorem dX6_pegs_1 : decode cX6_pegs 1 = .ok (.getfield 7, 3) := by decide +kernel
theorem dX6_pegs_4 : decode cX6_pegs 4 = .ok (.iconst 0, 1) := by decide +kernel
theorem dX6_pegs_5 : decode cX6_pegs 5 = .ok (.iaload, 1) := by decide +kernel
theorem dX6_pegs_6 : decode cX6_pegs 6 = .ok (.istore_n 3, 1) := by decide +kernel
theorem dX6_pegs_7 : decode cX6_pegs 7 = .ok (.aload_n 0, 1) := by decide +kernel
theorem dX6_pegs_8 : decode cX6_pegs 8 = .ok (.getfield 7, 3) := by decide +kernel
theorem dX6_pegs_11 : decode cX6_pegs 11 = .ok (.iconst 1, 1) := by decide +kernel
theorem dX6_pegs_12 : decode cX6_pegs 12 = .ok (.iload_n 3, 1) := by decide +kernel
theorem dX6_pegs_13 : decode cX6_pegs 13 = .ok (.iadd, 1) := by decide +kernel
theorem dX6_pegs_14 : decode cX6_pegs 14 = .ok (.iload_n 1, 1) := by decide +kernel
theorem dX6_pegs_15 : decode cX6_pegs 15 = .ok (.iastore, 1) := by decide +kernel
theorem dX6_pegs_16 : decode cX6_pegs 16 = .ok (.aload_n 0, 1) := by decide +kernel
theorem dX6_pegs_17 : decode cX6_pegs 17 = .ok (.getfield 7, 3) := by decide +kernel
theorem dX6_pegs_20 : decode cX6_pegs 20 = .ok (.bipush 10, 2) := by decide +kernel
theorem dX6_pegs_22 : decode cX6_pegs 22 = .ok (.iload_n 3, 1) := by decide +kernel
theorem dX6_pegs_23 : decode cX6_pegs 23 = .ok (.iadd, 1) := by decide +kernel
theorem dX6_pegs_24 : decode cX6_pegs 24 = .ok (.iload_n 2, 1) := by decide +kernel
theorem dX6_pegs_25 : decode cX6_pegs 25 = .ok (.iastore, 1) := by decide +kernel
theorem dX6_pegs_26 : decode cX6_pegs 26 = .ok (.aload_n 0, 1) := by decide +kernel
theorem dX6_pegs_27 : decode cX6_pegs 27 = .ok (.iload_n 3, 1) := by decide +kernel
theorem dX6_pegs_28 : decode cX6_pegs 28 = .ok (.iconst 0, 1) := by decide +kernel
theorem dX6_pegs_29 : decode cX6_pegs 29 = .ok (.iconst 0, 1) := by decide +kernel
theorem dX6_pegs_30 : decode cX6_pegs 30 = .ok (.iconst 0, 1) := by decide +kernel
theorem dX6_pegs_31 : decode cX6_pegs 31 = .ok (.invokevirtual 104, 3) := by decide +kernel
theorem dX6_pegs_34 : decode cX6_pegs 34 = .ok (.aload_n 0, 1) := by decide +kernel
theorem dX6_pegs_35 : decode cX6_pegs 35 = .ok (.iload_n 3, 1) := by decide +kernel
theorem dX6_pegs_36 : decode cX6_pegs 36 = .ok (.iconst 1, 1) := by decide +kernel
theorem dX6_pegs_37 : decode cX6_pegs 37 = .ok (.iconst 0, 1) := by decide +kernel
theorem dX6_pegs_38 : decode cX6_pegs 38 = .ok (.iconst 0, 1) := by decide +kernel
theorem dX6_pegs_39 : decode cX6_pegs 39 = .ok (.invokevirtual 104, 3) := by decide +kernel
theorem dX6_pegs_42 : decode cX6_pegs 42 = .ok (.aload_n 0, 1) := by decide +kernel
theorem dX6_pegs_43 : decode cX6_pegs 43 = .ok (.getfield 7, 3) := by decide +kernel
theorem dX6_pegs_46 : decode cX6_pegs 46 = .ok (.iconst 0, 1) := by decide +kernel
theorem dX6_pegs_47 : decode cX6_pegs 47 = .ok (.dup2, 1) := by decide +kernel
theorem dX6_pegs_48 : decode cX6_pegs 48 = .ok (.iaload, 1) := by decide +kernel
theorem dX6_pegs_49 : decode cX6_pegs 49 = .ok (.iconst 1, 1) := by decide +kernel
theorem dX6_pegs_50 : decode cX6_pegs 50 = .ok (.iadd, 1) := by decide +kernel
theorem dX6_pegs_51 : decode cX6_pegs 51 = .ok (.iastore, 1) := by decide +kernel
theorem dX6_pegs_52 : decode cX6_pegs 52 = .ok (.iload_n 3, 1) := by decide +kernel
theorem dX6_pegs_53 : decode cX6_pegs 53 = .ok (.ireturn, 1) := by decide +kernel
set_option maxRecDepth 20000 in
theorem ggX6_addPeg_X6_pegFault : GoodIn wsX6_addPeg wsX6_pegFault := goodIn_r _ [5, 6, 7, 8, 4, 9, 10, 11, 12, 13, 14, 15, 16, 36, 37, 38, 39, 40, 41, 42, 43, 44, 45, 46, 47, 48, 49, 50, 51, 52, 53, 54, 55, 56] (by decide +kernel) (by decide +kernel)
set_option maxRecDepth 20000 in
theorem gX6_addPeg_X6_pegFault : GoodIn wsX6_addPeg (wsV RX6 108 RX6 yX6_pegFault wsX6_pegFault) := goodIn_app (goodIn_of _ (by decide +kernel)) ggX6_addPeg_X6_pegFault
set_option maxRecDepth 20000 in
theorem ggX6_addPeg_X6_holds : GoodIn wsX6_addPeg wsX6_holds := goodIn_r _ [20, 21, 36, 37, 38, 39, 40, 41, 42, 43, 44, 45, 46, 47, 48, 49, 50, 51, 52, 53, 54, 55, 56] (by decide +kernel) (by decide +kernel)
set_option maxRecDepth 20000 in
theorem gX6_addPeg_X6_holds : GoodIn wsX6_addPeg (wsV RX6 111 RX6 yX6_holds wsX6_holds) := goodIn_app (goodIn_of _ (by decide +kernel)) ggX6_addPeg_X6_holds
set_option maxRecDepth 20000 in
theorem ggX6_addPeg_X6_save : GoodIn wsX6_addPeg wsX6_save := goodIn_r _ [25, 26, 27, 6, 36, 37, 38, 39, 40, 41, 42, 43, 44, 45, 46, 47, 48, 49, 50, 51, 52, 53, 54, 55, 56] (by decide +kernel) (by decide +kernel)
set_option maxRecDepth 20000 in
theorem gX6_addPeg_X6_save : GoodIn wsX6_addPeg (wsV RX6 115 RX6 yX6_save wsX6_save) := goodIn_app (goodIn_of _ (by decide +kernel)) ggX6_addPeg_X6_save
set_option maxRecDepth 20000 in
theorem ggX6_addPeg_X6_pegs : GoodIn wsX6_addPeg wsX6_pegs := goodIn_r _ [31, 6, 32, 33, 34, 4, 35, 36, 37, 38, 39, 40, 41, 42, 43, 44, 45, 46, 47, 48, 49, 50, 51, 52, 53, 54, 55, 56] (by decide +kernel) (by decide +kernel)
set_option maxRecDepth 20000 in
theorem gX6_addPeg_X6_pegs : GoodIn wsX6_addPeg (wsV RX6 118 RX6 yX6_pegs wsX6_pegs) := goodIn_app (goodIn_of _ (by decide +kernel)) ggX6_addPeg_X6_pegs
theorem dX6_addPeg_0 : decode cX6_addPeg 0 = .ok (.aload_n 0, 1) := by decide +kernel
theorem dX6_addPeg_1 : decode cX6_addPeg 1 = .ok (.aload_n 0, 1) := by decide +kernel
theorem dX6_addPeg_2 : decode cX6_addPeg 2 = .ok (.iload_n 1, 1) := by decide +kernel
theorem dX6_addPeg_3 : decode cX6_addPeg 3 = .ok (.iload_n 2, 1) := by decide +kernel
theorem dX6_addPeg_4 : decode cX6_addPeg 4 = .ok (.invokevirtual 108, 3) := by decide +kernel
theorem dX6_addPeg_7 : decode cX6_addPeg 7 = .ok (.invokevirtual 111, 3) := by decide +kernel
theorem dX6_addPeg_10 : decode cX6_addPeg 10 = .ok (.ifCond .ne 5, 3) := by decide +kernel
theorem dX6_addPeg_13 : decode cX6_addPeg 13 = .ok (.iconst 0, 1) := by decide +kernel
theorem dX6_addPeg_14 : decode cX6_addPeg 14 = .ok (.ireturn, 1) := by decide +kernel
theorem dX6_addPeg_15 : decode cX6_addPeg 15 = .ok (.aload_n 0, 1) := by decide +kernel
theorem dX6_addPeg_16 : decode cX6_addPeg 16 = .ok (.invokevirtual 115, 3) := by decide +kernel
theorem dX6_addPeg_19 : decode cX6_addPeg 19 = .ok (.aload_n 0, 1) := by decide +kernel
theorem dX6_addPeg_20 : decode cX6_addPeg 20 = .ok (.iload_n 1, 1) := by decide +kernel
theorem dX6_addPeg_21 : decode cX6_addPeg 21 = .ok (.iload_n 2, 1) := by decide +kernel
theorem dX6_addPeg_22 : decode cX6_addPeg 22 = .ok (.invokevirtual 118, 3) := by decide +kernel
theorem dX6_addPeg_25 : decode cX6_addPeg 25 = .ok (.ireturn, 1) := by decide +kernel
set_option maxRecDepth 20000 in
theorem ggX6_putFault_X6_isPeg : GoodIn wsX6_putFault wsX6_isPeg := goodIn_r _ [5, 6, 7, 8, 4, 9, 37, 38, 39, 40, 41, 42, 43, 44, 45, 46, 47, 48, 49, 50, 51, 52, 53, 54, 55, 56, 57] (by decide +kernel) (by decide +kernel)
set_option maxRecDepth 20000 in
theorem gX6_putFault_X6_isPeg : GoodIn wsX6_putFault (wsV RX6 121 RX6 yX6_isPeg wsX6_isPeg) := goodIn_app (goodIn_of _ (by decide +kernel)) ggX6_putFault_X6_isPeg
set_option maxRecDepth 20000 in
theorem ggX6_putFault_X6_in : GoodIn wsX6_putFault wsX6_in := goodIn_r _ [9] (by decide +kernel) (by decide +kernel)
set_option maxRecDepth 20000 in
theorem gX6_putFault_X6_in : GoodIn wsX6_putFault (va_wsS RX6 46 yX6_in wsX6_in) := goodIn_app (goodIn_of _ (by decide +kernel)) ggX6_putFault_X6_in
set_option maxRecDepth 20000 in
theorem ggX6_putFault_X6_kind : GoodIn wsX6_putFault wsX6_kind := goodIn_r _ [13, 6, 37, 38, 39, 40, 41, 42, 43, 44, 45, 46, 47, 48, 49, 50, 51, 52, 53, 54, 55, 56, 57] (by decide +kernel) (by decide +kernel)
set_option maxRecDepth 20000 in
theorem gX6_putFault_X6_kind : GoodIn wsX6_putFault (wsV RX6 53 RX6 yX6_kind wsX6_kind) := goodIn_app (goodIn_of _ (by decide +kernel)) ggX6_putFault_X6_kind
set_option maxRecDepth 20000 in
theorem ggX6_putFault_X6_teeth : GoodIn wsX6_putFault wsX6_teeth := goodIn_r _ [17, 6, 37, 38, 39, 40, 41, 42, 43, 44, 45, 46, 47, 48, 49, 50, 51, 52, 53, 54, 55, 56, 57] (by decide +kernel) (by decide +kernel)
set_option maxRecDepth 20000 in
theorem gX6_putFault_X6_teeth : GoodIn wsX6_putFault (wsV RX6 60 RX6 yX6_teeth wsX6_teeth) := goodIn_app (goodIn_of _ (by decide +kernel)) ggX6_putFault_X6_teeth
set_option maxRecDepth 20000 in
theorem ggX6_putFault_X6_put : GoodIn wsX6_putFault wsX6_put := goodIn_r _ [21, 6, 37, 38, 39, 40, 41, 42, 43, 44, 45, 46, 47, 48, 49, 50, 51, 52, 53, 54, 55, 56, 57] (by decide +kernel) (by decide +kernel)
set_option maxRecDepth 20000 in
theorem gX6_putFault_X6_put : GoodIn wsX6_putFault (wsV RX6 104 RX6 yX6_put wsX6_put) := goodIn_app (goodIn_of _ (by decide +kernel)) ggX6_putFault_X6_put
set_option maxRecDepth 20000 in
theorem ggX6_putFault_X6_overlaps : GoodIn wsX6_putFault wsX6_overlaps := goodIn_r _ [25, 6, 26, 27, 28, 4, 29, 10, 11, 12, 13, 30, 31, 32, 33, 14, 15, 16, 17, 34, 35, 36, 37, 38, 39, 40, 41, 42, 43, 44, 45, 46, 47, 48, 49, 50, 51, 52, 53, 54, 55, 56, 57] (by decide +kernel) (by decide +kernel)
set_option maxRecDepth 20000 in
theorem gX6_putFault_X6_overlaps : GoodIn wsX6_putFault (wsV RX6 124 RX6 yX6_overlaps wsX6_overlaps) := goodIn_app (goodIn_of _ (by decide +kernel)) ggX6_putFault_X6_overlaps
theorem dX6_putFault_0 : decode cX6_putFault 0 = .ok (.aload_n 0, 1) := by decide +kernel
theorem dX6_putFault_1 : decode cX6_putFault 1 = .ok (.iload_n 1, 1) := by decide +kernel
theorem dX6_putFault_2 : decode cX6_putFault 2 = .ok (.invokevirtual 121, 3) := by decide +kernel
theorem dX6_putFault_5 : decode cX6_putFault 5 = .ok (.ifCond .ne 5, 3) := by decide +kernel
theorem dX6_putFault_8 : decode cX6_putFault 8 = .ok (.iconst 1, 1) := by decide +kernel
theorem dX6_putFault_9 : decode cX6_putFault 9 = .ok (.ireturn, 1) := by decide +kernel
theorem dX6_putFault_10 : decode cX6_putFault 10 = .ok (.iload_n 2, 1) := by decide +kernel
theorem dX6_putFault_11 : decode cX6_putFault 11 = .ok (.iconst 0, 1) := by decide +kernel
theorem dX6_putFault_12 : decode cX6_putFault 12 = .ok (.iconst 1, 1) := by decide +kernel
theorem dX6_putFault_13 : decode cX6_putFault 13 = .ok (.invokestatic 46, 3) := by decide +kernel
theorem dX6_putFault_16 : decode cX6_putFault 16 = .ok (.ifCond .eq 34, 3) := by decide +kernel
theorem dX6_putFault_19 : decode cX6_putFault 19 = .ok (.iload 4, 2) := by decide +kernel
theorem dX6_putFault_21 : decode cX6_putFault 21 = .ok (.iload_n 3, 1) := by decide +kernel
theorem dX6_putFault_22 : decode cX6_putFault 22 = .ok (.iconst 1, 1) := by decide +kernel
theorem dX6_putFault_23 : decode cX6_putFault 23 = .ok (.if_icmp .ne 7, 3) := by decide +kernel
theorem dX6_putFault_26 : decode cX6_putFault 26 = .ok (.iconst 0, 1) := by decide +kernel
theorem dX6_putFault_27 : decode cX6_putFault 27 = .ok (.goto 5, 3) := by decide +kernel
theorem dX6_putFault_30 : decode cX6_putFault 30 = .ok (.bipush 6, 2) := by decide +kernel
theorem dX6_putFault_32 : decode cX6_putFault 32 = .ok (.iload_n 3, 1) := by decide +kernel
theorem dX6_putFault_33 : decode cX6_putFault 33 = .ok (.iconst 1, 1) := by decide +kernel
theorem dX6_putFault_34 : decode cX6_putFault 34 = .ok (.if_icmp .ne 8, 3) := by decide +kernel
theorem dX6_putFault_37 : decode cX6_putFault 37 = .ok (.bipush 20, 2) := by decide +kernel
theorem dX6_putFault_39 : decode cX6_putFault 39 = .ok (.goto 5, 3) := by decide +kernel
theorem dX6_putFault_42 : decode cX6_putFault 42 = .ok (.bipush 40, 2) := by decide +kernel
theorem dX6_putFault_44 : decode cX6_putFault 44 = .ok (.invokestatic 46, 3) := by decide +kernel
theorem dX6_putFault_47 : decode cX6_putFault 47 = .ok (.ifCond .ne 5, 3) := by decide +kernel
theorem dX6_putFault_50 : decode cX6_putFault 50 = .ok (.iconst 2, 1) := by decide +kernel
theorem dX6_putFault_51 : decode cX6_putFault 51 = .ok (.ireturn, 1) := by decide +kernel
theorem dX6_putFault_52 : decode cX6_putFault 52 = .ok (.aload_n 0, 1) := by decide +kernel
theorem dX6_putFault_53 : decode cX6_putFault 53 = .ok (.iload_n 1, 1) := by decide +kernel
theorem dX6_putFault_54 : decode cX6_putFault 54 = .ok (.iload_n 2, 1) := by decide +kernel
theorem dX6_putFault_55 : decode cX6_putFault 55 = .ok (.invokevirtual 53, 3) := by decide +kernel
theorem dX6_putFault_58 : decode cX6_putFault 58 = .ok (.istore 5, 2) := by decide +kernel
theorem dX6_putFault_60 : decode cX6_putFault 60 = .ok (.aload_n 0, 1) := by decide +kernel
theorem dX6_putFault_61 : decode cX6_putFault 61 = .ok (.iload_n 1, 1) := by decide +kernel
theorem dX6_putFault_62 : decode cX6_putFault 62 = .ok (.iload_n 2, 1) := by decide +kernel
theorem dX6_putFault_63 : decode cX6_putFault 63 = .ok (.invokevirtual 60, 3) := by decide +kernel
theorem dX6_putFault_66 : decode cX6_putFault 66 = .ok (.istore 6, 2) := by decide +kernel
theorem dX6_putFault_68 : decode cX6_putFault 68 = .ok (.aload_n 0, 1) := by decide +kernel
theorem dX6_putFault_69 : decode cX6_putFault 69 = .ok (.iload_n 1, 1) := by decide +kernel
theorem dX6_putFault_70 : decode cX6_putFault 70 = .ok (.iload_n 2, 1) := by decide +kernel
theorem dX6_putFault_71 : decode cX6_putFault 71 = .ok (.iload_n 3, 1) := by decide +kernel
theorem dX6_putFault_72 : decode cX6_putFault 72 = .ok (.iload 4, 2) := by decide +kernel
theorem dX6_putFault_74 : decode cX6_putFault 74 = .ok (.invokevirtual 104, 3) := by decide +kernel
theorem dX6_putFault_77 : decode cX6_putFault 77 = .ok (.aload_n 0, 1) := by decide +kernel
theorem dX6_putFault_78 : decode cX6_putFault 78 = .ok (.iload_n 1, 1) := by decide +kernel
theorem dX6_putFault_79 : decode cX6_putFault 79 = .ok (.iload_n 2, 1) := by decide +kernel
theorem dX6_putFault_80 : decode cX6_putFault 80 = .ok (.invokevirtual 124, 3) := by decide +kernel
theorem dX6_putFault_83 : decode cX6_putFault 83 = .ok (.istore 7, 2) := by decide +kernel
theorem dX6_putFault_85 : decode cX6_putFault 85 = .ok (.aload_n 0, 1) := by decide +kernel
theorem dX6_putFault_86 : decode cX6_putFault 86 = .ok (.iload_n 1, 1) := by decide +kernel
theorem dX6_putFault_87 : decode cX6_putFault 87 = .ok (.iload_n 2, 1) := by decide +kernel
theorem dX6_putFault_88 : decode cX6_putFault 88 = .ok (.iload 5, 2) := by decide +kernel
theorem dX6_putFault_90 : decode cX6_putFault 90 = .ok (.iload 6, 2) := by decide +kernel
theorem dX6_putFault_92 : decode cX6_putFault 92 = .ok (.invokevirtual 104, 3) := by decide +kernel
theorem dX6_putFault_95 : decode cX6_putFault 95 = .ok (.iload 7, 2) := by decide +kernel
theorem dX6_putFault_97 : decode cX6_putFault 97 = .ok (.ifCond .le 7, 3) := by decide +kernel
theorem dX6_putFault_100 : decode cX6_putFault 100 = .ok (.iconst 3, 1) := by decide +kernel
theorem dX6_putFault_101 : decode cX6_putFault 101 = .ok (.goto 4, 3) := by decide +kernel
theorem dX6_putFault_104 : decode cX6_putFault 104 = .ok (.iconst 0, 1) := by decide +kernel
theorem dX6_putFault_105 : decode cX6_putFault 105 = .ok (.ireturn, 1) := by decide +kernel
set_option maxRecDepth 20000 in
theorem ggX6_puts_X6_put : GoodIn wsX6_puts wsX6_put := goodIn_r _ [5, 6, 38, 39, 40, 41, 42, 43, 44, 45, 46, 47, 48, 49, 50, 51, 52, 53, 54, 55, 56, 57, 58] (by decide +kernel) (by decide +kernel)
set_option maxRecDepth 20000 in
theorem gX6_puts_X6_put : GoodIn wsX6_puts (wsV RX6 104 RX6 yX6_put wsX6_put) := goodIn_app (goodIn_of _ (by decide +kernel)) ggX6_puts_X6_put
set_option maxRecDepth 20000 in
theorem ggX6_puts_X6_partners : GoodIn wsX6_puts wsX6_partners := goodIn_r _ [10, 6, 11, 12, 13, 4, 14, 15, 16, 17, 18, 19, 20, 21, 22, 23, 24, 25, 26, 27, 28, 29, 30, 31, 32, 33, 34, 35, 36, 37, 38, 39, 40, 41, 42, 43, 44, 45, 46, 47, 48, 49, 50, 51, 52, 53, 54, 55, 56, 57, 58] (by decide +kernel) (by decide +kernel)
set_option maxRecDepth 20000 in
theorem gX6_puts_X6_partners : GoodIn wsX6_puts (wsV RX6 127 RX6 yX6_partners wsX6_partners) := goodIn_app (goodIn_of _ (by decide +kernel)) ggX6_puts_X6_partners
theorem dX6_puts_0 : decode cX6_puts 0 = .ok (.aload_n 0, 1) := by decide +kernel
theorem dX6_puts_1 : decode cX6_puts 1 = .ok (.iload_n 1, 1) := by decide +kernel
theorem dX6_puts_2 : decode cX6_puts 2 = .ok (.iload_n 2, 1) := by decide +kernel
theorem dX6_puts_3 : decode cX6_puts 3 = .ok (.iload_n 3, 1) := by decide +kernel
theorem dX6_puts_4 : decode cX6_puts 4 = .ok (.iload 4, 2) := by decide +kernel
theorem dX6_puts_6 : decode cX6_puts 6 = .ok (.invokevirtual 104, 3) := by decide +kernel
theorem dX6_puts_9 : decode cX6_puts 9 = .ok (.aload_n 0, 1) := by decide +kernel
theorem dX6_puts_10 : decode cX6_puts 10 = .ok (.iload_n 1, 1) := by decide +kernel
theorem dX6_puts_11 : decode cX6_puts 11 = .ok (.iconst 1, 1) := by decide +kernel
theorem dX6_puts_12 : decode cX6_puts 12 = .ok (.iload_n 2, 1) := by decide +kernel
theorem dX6_puts_13 : decode cX6_puts 13 = .ok (.ishl, 1) := by decide +kernel
theorem dX6_puts_14 : decode cX6_puts 14 = .ok (.invokevirtual 127, 3) := by decide +kernel
theorem dX6_puts_17 : decode cX6_puts 17 = .ok (.ireturn, 1) := by decide +kernel
set_option maxRecDepth 20000 in
theorem ggX6_putGear_X6_putFault : GoodIn wsX6_putGear wsX6_putFault := goodIn_r _ [5, 6, 7, 8, 4, 9, 10, 11, 12, 13, 14, 15, 16, 17, 18, 19, 20, 21, 22, 23, 24, 25, 26, 27, 28, 29, 30, 31, 32, 33, 34, 35, 36, 37, 38, 39, 40, 68, 69, 70, 71, 72, 73, 74, 75, 76, 77, 78, 79, 80, 81, 82, 83, 84, 85, 86, 87, 88] (by decide +kernel) (by decide +kernel)
set_option maxRecDepth 20000 in
theorem gX6_putGear_X6_putFault : GoodIn wsX6_putGear (wsV RX6 130 RX6 yX6_putFault wsX6_putFault) := goodIn_app (goodIn_of _ (by decide +kernel)) ggX6_putGear_X6_putFault
set_option maxRecDepth 20000 in
theorem ggX6_putGear_X6_holds : GoodIn wsX6_putGear wsX6_holds := goodIn_r _ [44, 45, 68, 69, 70, 71, 72, 73, 74, 75, 76, 77, 78, 79, 80, 81, 82, 83, 84, 85, 86, 87, 88] (by decide +kernel) (by decide +kernel)
set_option maxRecDepth 20000 in
theorem gX6_putGear_X6_holds : GoodIn wsX6_putGear (wsV RX6 111 RX6 yX6_holds wsX6_holds) := goodIn_app (goodIn_of _ (by decide +kernel)) ggX6_putGear_X6_holds
set_option maxRecDepth 20000 in
theorem ggX6_putGear_X6_save : GoodIn wsX6_putGear wsX6_save := goodIn_r _ [49, 50, 51, 10, 68, 69, 70, 71, 72, 73, 74, 75, 76, 77, 78, 79, 80, 81, 82, 83, 84, 85, 86, 87, 88] (by decide +kernel) (by decide +kernel)
set_option maxRecDepth 20000 in
theorem gX6_putGear_X6_save : GoodIn wsX6_putGear (wsV RX6 115 RX6 yX6_save wsX6_save) := goodIn_app (goodIn_of _ (by decide +kernel)) ggX6_putGear_X6_save
set_option maxRecDepth 20000 in
theorem ggX6_putGear_X6_puts : GoodIn wsX6_putGear wsX6_puts := goodIn_r _ [55, 22, 23, 24, 4, 25, 10, 56, 57, 58, 59, 60, 61, 62, 63, 64, 65, 66, 67, 30, 31, 32, 33, 14, 15, 16, 17, 34, 35, 36, 37, 18, 19, 20, 21, 38, 39, 40, 68, 69, 70, 71, 72, 73, 74, 75, 76, 77, 78, 79, 80, 81, 82, 83, 84, 85, 86, 87, 88] (by decide +kernel) (by decide +kernel)
set_option maxRecDepth 20000 in
theorem gX6_putGear_X6_puts : GoodIn wsX6_putGear (wsV RX6 134 RX6 yX6_puts wsX6_puts) := goodIn_app (goodIn_of _ (by decide +kernel)) ggX6_putGear_X6_puts
theorem dX6_putGear_0 : decode cX6_putGear 0 = .ok (.aload_n 0, 1) := by decide +kernel
theorem dX6_putGear_1 : decode cX6_putGear 1 = .ok (.aload_n 0, 1) := by decide +kernel
theorem dX6_putGear_2 : decode cX6_putGear 2 = .ok (.iload_n 1, 1) := by decide +kernel
theorem dX6_putGear_3 : decode cX6_putGear 3 = .ok (.iload_n 2, 1) := by decide +kernel
theorem dX6_putGear_4 : decode cX6_putGear 4 = .ok (.iconst 1, 1) := by decide +kernel
theorem dX6_putGear_5 : decode cX6_putGear 5 = .ok (.iload_n 3, 1) := by decide +kernel
theorem dX6_putGear_6 : decode cX6_putGear 6 = .ok (.invokevirtual 130, 3) := by decide +kernel
theorem dX6_putGear_9 : decode cX6_putGear 9 = .ok (.invokevirtual 111, 3) := by decide +kernel
theorem dX6_putGear_12 : decode cX6_putGear 12 = .ok (.ifCond .ne 5, 3) := by decide +kernel
theorem dX6_putGear_15 : decode cX6_putGear 15 = .ok (.iconst 0, 1) := by decide +kernel
theorem dX6_putGear_16 : decode cX6_putGear 16 = .ok (.ireturn, 1) := by decide +kernel
theorem dX6_putGear_17 : decode cX6_putGear 17 = .ok (.aload_n 0, 1) := by decide +kernel
theorem dX6_putGear_18 : decode cX6_putGear 18 = .ok (.invokevirtual 115, 3) := by decide +kernel
theorem dX6_putGear_21 : decode cX6_putGear 21 = .ok (.aload_n 0, 1) := by decide +kernel
theorem dX6_putGear_22 : decode cX6_putGear 22 = .ok (.iload_n 1, 1) := by decide +kernel
theorem dX6_putGear_23 : decode cX6_putGear 23 = .ok (.iload_n 2, 1) := by decide +kernel
theorem dX6_putGear_24 : decode cX6_putGear 24 = .ok (.iconst 1, 1) := by decide +kernel
theorem dX6_putGear_25 : decode cX6_putGear 25 = .ok (.iload_n 3, 1) := by decide +kernel
theorem dX6_putGear_26 : decode cX6_putGear 26 = .ok (.invokevirtual 134, 3) := by decide +kernel
theorem dX6_putGear_29 : decode cX6_putGear 29 = .ok (.ireturn, 1) := by decide +kernel
set_option maxRecDepth 20000 in
theorem ggX6_putRing_X6_putFault : GoodIn wsX6_putRing wsX6_putFault := goodIn_r _ [5, 6, 7, 8, 4, 9, 10, 11, 12, 13, 14, 15, 16, 17, 18, 19, 20, 21, 22, 23, 24, 25, 26, 27, 28, 29, 30, 31, 32, 33, 34, 35, 36, 37, 38, 39, 40, 68, 69, 70, 71, 72, 73, 74, 75, 76, 77, 78, 79, 80, 81, 82, 83, 84, 85, 86, 87, 88] (by decide +kernel) (by decide +kernel)
set_option maxRecDepth 20000 in
theorem gX6_putRing_X6_putFault : GoodIn wsX6_putRing (wsV RX6 130 RX6 yX6_putFault wsX6_putFault) := goodIn_app (goodIn_of _ (by decide +kernel)) ggX6_putRing_X6_putFault
set_option maxRecDepth 20000 in
theorem ggX6_putRing_X6_holds : GoodIn wsX6_putRing wsX6_holds := goodIn_r _ [44, 45, 68, 69, 70, 71, 72, 73, 74, 75, 76, 77, 78, 79, 80, 81, 82, 83, 84, 85, 86, 87, 88] (by decide +kernel) (by decide +kernel)
set_option maxRecDepth 20000 in
theorem gX6_putRing_X6_holds : GoodIn wsX6_putRing (wsV RX6 111 RX6 yX6_holds wsX6_holds) := goodIn_app (goodIn_of _ (by decide +kernel)) ggX6_putRing_X6_holds
set_option maxRecDepth 20000 in
theorem ggX6_putRing_X6_save : GoodIn wsX6_putRing wsX6_save := goodIn_r _ [49, 50, 51, 10, 68, 69, 70, 71, 72, 73, 74, 75, 76, 77, 78, 79, 80, 81, 82, 83, 84, 85, 86, 87, 88] (by decide +kernel) (by decide +kernel)
set_option maxRecDepth 20000 in
theorem gX6_putRing_X6_save : GoodIn wsX6_putRing (wsV RX6 115 RX6 yX6_save wsX6_save) := goodIn_app (goodIn_of _ (by decide +kernel)) ggX6_putRing_X6_save
set_option maxRecDepth 20000 in
theorem ggX6_putRing_X6_puts : GoodIn wsX6_putRing wsX6_puts := goodIn_r _ [55, 22, 23, 24, 4, 25, 10, 56, 57, 58, 59, 60, 61, 62, 63, 64, 65, 66, 67, 30, 31, 32, 33, 14, 15, 16, 17, 34, 35, 36, 37, 18, 19, 20, 21, 38, 39, 40, 68, 69, 70, 71, 72, 73, 74, 75, 76, 77, 78, 79, 80, 81, 82, 83, 84, 85, 86, 87, 88] (by decide +kernel) (by decide +kernel)
set_option maxRecDepth 20000 in
theorem gX6_putRing_X6_puts : GoodIn wsX6_putRing (wsV RX6 134 RX6 yX6_puts wsX6_puts) := goodIn_app (goodIn_of _ (by decide +kernel)) ggX6_putRing_X6_puts
theorem dX6_putRing_0 : decode cX6_putRing 0 = .ok (.aload_n 0, 1) := by decide +kernel
theorem dX6_putRing_1 : decode cX6_putRing 1 = .ok (.aload_n 0, 1) := by decide +kernel
theorem dX6_putRing_2 : decode cX6_putRing 2 = .ok (.iload_n 1, 1) := by decide +kernel
theorem dX6_putRing_3 : decode cX6_putRing 3 = .ok (.iload_n 2, 1) := by decide +kernel
theorem dX6_putRing_4 : decode cX6_putRing 4 = .ok (.iconst 2, 1) := by decide +kernel
theorem dX6_putRing_5 : decode cX6_putRing 5 = .ok (.iload_n 3, 1) := by decide +kernel
theorem dX6_putRing_6 : decode cX6_putRing 6 = .ok (.invokevirtual 130, 3) := by decide +kernel
theorem dX6_putRing_9 : decode cX6_putRing 9 = .ok (.invokevirtual 111, 3) := by decide +kernel
theorem dX6_putRing_12 : decode cX6_putRing 12 = .ok (.ifCond .ne 5, 3) := by decide +kernel
theorem dX6_putRing_15 : decode cX6_putRing 15 = .ok (.iconst 0, 1) := by decide +kernel
theorem dX6_putRing_16 : decode cX6_putRing 16 = .ok (.ireturn, 1) := by decide +kernel
theorem dX6_putRing_17 : decode cX6_putRing 17 = .ok (.aload_n 0, 1) := by decide +kernel
theorem dX6_putRing_18 : decode cX6_putRing 18 = .ok (.invokevirtual 115, 3) := by decide +kernel
theorem dX6_putRing_21 : decode cX6_putRing 21 = .ok (.aload_n 0, 1) := by decide +kernel
theorem dX6_putRing_22 : decode cX6_putRing 22 = .ok (.iload_n 1, 1) := by decide +kernel
theorem dX6_putRing_23 : decode cX6_putRing 23 = .ok (.iload_n 2, 1) := by decide +kernel
theorem dX6_putRing_24 : decode cX6_putRing 24 = .ok (.iconst 2, 1) := by decide +kernel
theorem dX6_putRing_25 : decode cX6_putRing 25 = .ok (.iload_n 3, 1) := by decide +kernel
theorem dX6_putRing_26 : decode cX6_putRing 26 = .ok (.invokevirtual 134, 3) := by decide +kernel
theorem dX6_putRing_29 : decode cX6_putRing 29 = .ok (.ireturn, 1) := by decide +kernel
theorem dX6_goTo_0 : decode cX6_goTo 0 = .ok (.aload_n 0, 1) := by decide +kernel
theorem dX6_goTo_1 : decode cX6_goTo 1 = .ok (.getfield 7, 3) := by decide +kernel
theorem dX6_goTo_4 : decode cX6_goTo 4 = .ok (.iconst 1, 1) := by decide +kernel
theorem dX6_goTo_5 : decode cX6_goTo 5 = .ok (.iload_n 1, 1) := by decide +kernel
theorem dX6_goTo_6 : decode cX6_goTo 6 = .ok (.iadd, 1) := by decide +kernel
theorem dX6_goTo_7 : decode cX6_goTo 7 = .ok (.iload_n 2, 1) := by decide +kernel
theorem dX6_goTo_8 : decode cX6_goTo 8 = .ok (.iastore, 1) := by decide +kernel
theorem dX6_goTo_9 : decode cX6_goTo 9 = .ok (.aload_n 0, 1) := by decide +kernel
theorem dX6_goTo_10 : decode cX6_goTo 10 = .ok (.getfield 7, 3) := by decide +kernel
theorem dX6_goTo_13 : decode cX6_goTo 13 = .ok (.bipush 10, 2) := by decide +kernel
theorem dX6_goTo_15 : decode cX6_goTo 15 = .ok (.iload_n 1, 1) := by decide +kernel
theorem dX6_goTo_16 : decode cX6_goTo 16 = .ok (.iadd, 1) := by decide +kernel
theorem dX6_goTo_17 : decode cX6_goTo 17 = .ok (.iload_n 3, 1) := by decide +kernel
theorem dX6_goTo_18 : decode cX6_goTo 18 = .ok (.iastore, 1) := by decide +kernel
theorem dX6_goTo_19 : decode cX6_goTo 19 = .ok (.return_, 1) := by decide +kernel
set_option maxRecDepth 20000 in
theorem ggX6_moveFault_X6_isPeg : GoodIn wsX6_moveFault wsX6_isPeg := goodIn_r _ [6, 1, 7, 8, 5, 9, 44, 45, 46, 47, 48, 49, 50, 51, 52, 53, 54, 55, 56, 57, 58, 59, 60, 61, 62, 63, 64] (by decide +kernel) (by decide +kernel)
set_option maxRecDepth 20000 in
theorem gX6_moveFault_X6_isPeg : GoodIn wsX6_moveFault (wsV RX6 121 RX6 yX6_isPeg wsX6_isPeg) := goodIn_app (goodIn_of _ (by decide +kernel)) ggX6_moveFault_X6_isPeg
set_option maxRecDepth 20000 in
theorem ggX6_moveFault_X6_isPlace : GoodIn wsX6_moveFault wsX6_isPlace := goodIn_r _ [12, 7, 8, 5, 9] (by decide +kernel) (by decide +kernel)
set_option maxRecDepth 20000 in
theorem gX6_moveFault_X6_isPlace : GoodIn wsX6_moveFault (va_wsS RX6 97 yX6_isPlace wsX6_isPlace) := goodIn_app (goodIn_of _ (by decide +kernel)) ggX6_moveFault_X6_isPlace
set_option maxRecDepth 20000 in
theorem ggX6_moveFault_X6_pegAt : GoodIn wsX6_moveFault wsX6_pegAt := goodIn_r _ [16, 1, 44, 45, 46, 47, 48, 49, 50, 51, 52, 53, 54, 55, 56, 57, 58, 59, 60, 61, 62, 63, 64] (by decide +kernel) (by decide +kernel)
set_option maxRecDepth 20000 in
theorem gX6_moveFault_X6_pegAt : GoodIn wsX6_moveFault (wsV RX6 101 RX6 yX6_pegAt wsX6_pegAt) := goodIn_app (goodIn_of _ (by decide +kernel)) ggX6_moveFault_X6_pegAt
set_option maxRecDepth 20000 in
theorem ggX6_moveFault_X6_goTo : GoodIn wsX6_moveFault wsX6_goTo := goodIn_r _ [20, 1, 44, 45, 46, 47, 48, 49, 50, 51, 52, 53, 54, 55, 56, 57, 58, 59, 60, 61, 62, 63, 64] (by decide +kernel) (by decide +kernel)
set_option maxRecDepth 20000 in
theorem gX6_moveFault_X6_goTo : GoodIn wsX6_moveFault (wsV RX6 137 RX6 yX6_goTo wsX6_goTo) := goodIn_app (goodIn_of _ (by decide +kernel)) ggX6_moveFault_X6_goTo
set_option maxRecDepth 20000 in
theorem ggX6_moveFault_X6_overlaps : GoodIn wsX6_moveFault wsX6_overlaps := goodIn_r _ [24, 1, 25, 26, 27, 5, 28, 29, 30, 31, 32, 33, 34, 35, 36, 37, 38, 39, 40, 41, 42, 43, 44, 45, 46, 47, 48, 49, 50, 51, 52, 53, 54, 55, 56, 57, 58, 59, 60, 61, 62, 63, 64] (by decide +kernel) (by decide +kernel)
set_option maxRecDepth 20000 in
theorem gX6_moveFault_X6_overlaps : GoodIn wsX6_moveFault (wsV RX6 124 RX6 yX6_overlaps wsX6_overlaps) := goodIn_app (goodIn_of _ (by decide +kernel)) ggX6_moveFault_X6_overlaps
theorem dX6_moveFault_0 : decode cX6_moveFault 0 = .ok (.aload_n 0, 1) := by decide +kernel
theorem dX6_moveFault_1 : decode cX6_moveFault 1 = .ok (.iload_n 1, 1) := by decide +kernel
theorem dX6_moveFault_2 : decode cX6_moveFault 2 = .ok (.invokevirtual 121, 3) := by decide +kernel
theorem dX6_moveFault_5 : decode cX6_moveFault 5 = .ok (.ifCond .ne 5, 3) := by decide +kernel
theorem dX6_moveFault_8 : decode cX6_moveFault 8 = .ok (.iconst 1, 1) := by decide +kernel
theorem dX6_moveFault_9 : decode cX6_moveFault 9 = .ok (.ireturn, 1) := by decide +kernel
theorem dX6_moveFault_10 : decode cX6_moveFault 10 = .ok (.iload_n 2, 1) := by decide +kernel
theorem dX6_moveFault_11 : decode cX6_moveFault 11 = .ok (.iload_n 3, 1) := by decide +kernel
theorem dX6_moveFault_12 : decode cX6_moveFault 12 = .ok (.invokestatic 97, 3) := by decide +kernel
theorem dX6_moveFault_15 : decode cX6_moveFault 15 = .ok (.ifCond .ne 5, 3) := by decide +kernel
theorem dX6_moveFault_18 : decode cX6_moveFault 18 = .ok (.iconst 2, 1) := by decide +kernel
theorem dX6_moveFault_19 : decode cX6_moveFault 19 = .ok (.ireturn, 1) := by decide +kernel
theorem dX6_moveFault_20 : decode cX6_moveFault 20 = .ok (.aload_n 0, 1) := by decide +kernel
theorem dX6_moveFault_21 : decode cX6_moveFault 21 = .ok (.iload_n 2, 1) := by decide +kernel
theorem dX6_moveFault_22 : decode cX6_moveFault 22 = .ok (.iload_n 3, 1) := by decide +kernel
theorem dX6_moveFault_23 : decode cX6_moveFault 23 = .ok (.invokevirtual 101, 3) := by decide +kernel
theorem dX6_moveFault_26 : decode cX6_moveFault 26 = .ok (.istore 4, 2) := by decide +kernel
theorem dX6_moveFault_28 : decode cX6_moveFault 28 = .ok (.aload_n 0, 1) := by decide +kernel
theorem dX6_moveFault_29 : decode cX6_moveFault 29 = .ok (.getfield 7, 3) := by decide +kernel
theorem dX6_moveFault_32 : decode cX6_moveFault 32 = .ok (.iconst 1, 1) := by decide +kernel
theorem dX6_moveFault_33 : decode cX6_moveFault 33 = .ok (.iload_n 1, 1) := by decide +kernel
theorem dX6_moveFault_34 : decode cX6_moveFault 34 = .ok (.iadd, 1) := by decide +kernel
theorem dX6_moveFault_35 : decode cX6_moveFault 35 = .ok (.iaload, 1) := by decide +kernel
theorem dX6_moveFault_36 : decode cX6_moveFault 36 = .ok (.istore 5, 2) := by decide +kernel
theorem dX6_moveFault_38 : decode cX6_moveFault 38 = .ok (.aload_n 0, 1) := by decide +kernel
theorem dX6_moveFault_39 : decode cX6_moveFault 39 = .ok (.getfield 7, 3) := by decide +kernel
theorem dX6_moveFault_42 : decode cX6_moveFault 42 = .ok (.bipush 10, 2) := by decide +kernel
theorem dX6_moveFault_44 : decode cX6_moveFault 44 = .ok (.iload_n 1, 1) := by decide +kernel
theorem dX6_moveFault_45 : decode cX6_moveFault 45 = .ok (.iadd, 1) := by decide +kernel
theorem dX6_moveFault_46 : decode cX6_moveFault 46 = .ok (.iaload, 1) := by decide +kernel
theorem dX6_moveFault_47 : decode cX6_moveFault 47 = .ok (.istore 6, 2) := by decide +kernel
theorem dX6_moveFault_49 : decode cX6_moveFault 49 = .ok (.aload_n 0, 1) := by decide +kernel
theorem dX6_moveFault_50 : decode cX6_moveFault 50 = .ok (.iload_n 1, 1) := by decide +kernel
theorem dX6_moveFault_51 : decode cX6_moveFault 51 = .ok (.iload_n 2, 1) := by decide +kernel
theorem dX6_moveFault_52 : decode cX6_moveFault 52 = .ok (.iload_n 3, 1) := by decide +kernel
theorem dX6_moveFault_53 : decode cX6_moveFault 53 = .ok (.invokevirtual 137, 3) := by decide +kernel
theorem dX6_moveFault_56 : decode cX6_moveFault 56 = .ok (.aload_n 0, 1) := by decide +kernel
theorem dX6_moveFault_57 : decode cX6_moveFault 57 = .ok (.iload_n 1, 1) := by decide +kernel
theorem dX6_moveFault_58 : decode cX6_moveFault 58 = .ok (.iconst 0, 1) := by decide +kernel
theorem dX6_moveFault_59 : decode cX6_moveFault 59 = .ok (.invokevirtual 124, 3) := by decide +kernel
theorem dX6_moveFault_62 : decode cX6_moveFault 62 = .ok (.aload_n 0, 1) := by decide +kernel
theorem dX6_moveFault_63 : decode cX6_moveFault 63 = .ok (.iload_n 1, 1) := by decide +kernel
theorem dX6_moveFault_64 : decode cX6_moveFault 64 = .ok (.iconst 1, 1) := by decide +kernel
theorem dX6_moveFault_65 : decode cX6_moveFault 65 = .ok (.invokevirtual 124, 3) := by decide +kernel
theorem dX6_moveFault_68 : decode cX6_moveFault 68 = .ok (.iadd, 1) := by decide +kernel
theorem dX6_moveFault_69 : decode cX6_moveFault 69 = .ok (.istore 7, 2) := by decide +kernel
theorem dX6_moveFault_71 : decode cX6_moveFault 71 = .ok (.aload_n 0, 1) := by decide +kernel
theorem dX6_moveFault_72 : decode cX6_moveFault 72 = .ok (.iload_n 1, 1) := by decide +kernel
theorem dX6_moveFault_73 : decode cX6_moveFault 73 = .ok (.iload 5, 2) := by decide +kernel
theorem dX6_moveFault_75 : decode cX6_moveFault 75 = .ok (.iload 6, 2) := by decide +kernel
theorem dX6_moveFault_77 : decode cX6_moveFault 77 = .ok (.invokevirtual 137, 3) := by decide +kernel
theorem dX6_moveFault_80 : decode cX6_moveFault 80 = .ok (.iload 4, 2) := by decide +kernel
theorem dX6_moveFault_82 : decode cX6_moveFault 82 = .ok (.iconst (-1), 1) := by decide +kernel
theorem dX6_moveFault_83 : decode cX6_moveFault 83 = .ok (.if_icmp .eq 9, 3) := by decide +kernel
theorem dX6_moveFault_86 : decode cX6_moveFault 86 = .ok (.iload 4, 2) := by decide +kernel
theorem dX6_moveFault_88 : decode cX6_moveFault 88 = .ok (.iload_n 1, 1) := by decide +kernel
theorem dX6_moveFault_89 : decode cX6_moveFault 89 = .ok (.if_icmp .ne 8, 3) := by decide +kernel
theorem dX6_moveFault_92 : decode cX6_moveFault 92 = .ok (.iload 7, 2) := by decide +kernel
theorem dX6_moveFault_94 : decode cX6_moveFault 94 = .ok (.ifCond .le 7, 3) := by decide +kernel
theorem dX6_moveFault_97 : decode cX6_moveFault 97 = .ok (.iconst 3, 1) := by decide +kernel
theorem dX6_moveFault_98 : decode cX6_moveFault 98 = .ok (.goto 4, 3) := by decide +kernel
theorem dX6_moveFault_101 : decode cX6_moveFault 101 = .ok (.iconst 0, 1) := by decide +kernel
theorem dX6_moveFault_102 : decode cX6_moveFault 102 = .ok (.ireturn, 1) := by decide +kernel
set_option maxRecDepth 20000 in
theorem ggX6_move_X6_moveFault : GoodIn wsX6_move wsX6_moveFault := goodIn_r _ [5, 6, 7, 8, 9, 4, 10, 11, 12, 13, 14, 15, 16, 17, 18, 19, 20, 21, 22, 23, 24, 25, 26, 27, 28, 29, 30, 31, 32, 33, 34, 35, 36, 37, 38, 39, 40, 41, 42, 43, 44, 45, 46, 47, 71, 72, 73, 74, 75, 76, 77, 78, 79, 80, 81, 82, 83, 84, 85, 86, 87, 88, 89, 90, 91] (by decide +kernel) (by decide +kernel)
set_option maxRecDepth 20000 in
theorem gX6_move_X6_moveFault : GoodIn wsX6_move (wsV RX6 141 RX6 yX6_moveFault wsX6_moveFault) := goodIn_app (goodIn_of _ (by decide +kernel)) ggX6_move_X6_moveFault
set_option maxRecDepth 20000 in
theorem ggX6_move_X6_holds : GoodIn wsX6_move wsX6_holds := goodIn_r _ [51, 52, 71, 72, 73, 74, 75, 76, 77, 78, 79, 80, 81, 82, 83, 84, 85, 86, 87, 88, 89, 90, 91] (by decide +kernel) (by decide +kernel)
set_option maxRecDepth 20000 in
theorem gX6_move_X6_holds : GoodIn wsX6_move (wsV RX6 111 RX6 yX6_holds wsX6_holds) := goodIn_app (goodIn_of _ (by decide +kernel)) ggX6_move_X6_holds
set_option maxRecDepth 20000 in
theorem ggX6_move_X6_save : GoodIn wsX6_move wsX6_save := goodIn_r _ [56, 57, 58, 6, 71, 72, 73, 74, 75, 76, 77, 78, 79, 80, 81, 82, 83, 84, 85, 86, 87, 88, 89, 90, 91] (by decide +kernel) (by decide +kernel)
set_option maxRecDepth 20000 in
theorem gX6_move_X6_save : GoodIn wsX6_move (wsV RX6 115 RX6 yX6_save wsX6_save) := goodIn_app (goodIn_of _ (by decide +kernel)) ggX6_move_X6_save
set_option maxRecDepth 20000 in
theorem ggX6_move_X6_goTo : GoodIn wsX6_move wsX6_goTo := goodIn_r _ [24, 6, 71, 72, 73, 74, 75, 76, 77, 78, 79, 80, 81, 82, 83, 84, 85, 86, 87, 88, 89, 90, 91] (by decide +kernel) (by decide +kernel)
set_option maxRecDepth 20000 in
theorem gX6_move_X6_goTo : GoodIn wsX6_move (wsV RX6 137 RX6 yX6_goTo wsX6_goTo) := goodIn_app (goodIn_of _ (by decide +kernel)) ggX6_move_X6_goTo
set_option maxRecDepth 20000 in
theorem ggX6_move_X6_partners : GoodIn wsX6_move wsX6_partners := goodIn_r _ [62, 6, 63, 64, 65, 4, 66, 67, 68, 69, 70, 29, 30, 31, 32, 33, 34, 35, 36, 37, 38, 39, 40, 41, 42, 43, 44, 45, 46, 47, 71, 72, 73, 74, 75, 76, 77, 78, 79, 80, 81, 82, 83, 84, 85, 86, 87, 88, 89, 90, 91] (by decide +kernel) (by decide +kernel)
set_option maxRecDepth 20000 in
theorem gX6_move_X6_partners : GoodIn wsX6_move (wsV RX6 127 RX6 yX6_partners wsX6_partners) := goodIn_app (goodIn_of _ (by decide +kernel)) ggX6_move_X6_partners
theorem dX6_move_0 : decode cX6_move 0 = .ok (.aload_n 0, 1) := by decide +kernel
theorem dX6_move_1 : decode cX6_move 1 = .ok (.aload_n 0, 1) := by decide +kernel
theorem dX6_move_2 : decode cX6_move 2 = .ok (.iload_n 1, 1) := by decide +kernel
theorem dX6_move_3 : decode cX6_move 3 = .ok (.iload_n 2, 1) := by decide +kernel
theorem dX6_move_4 : decode cX6_move 4 = .ok (.iload_n 3, 1) := by decide +kernel
theorem dX6_move_5 : decode cX6_move 5 = .ok (.invokevirtual 141, 3) := by decide +kernel
theorem dX6_move_8 : decode cX6_move 8 = .ok (.invokevirtual 111, 3) := by decide +kernel
theorem dX6_move_11 : decode cX6_move 11 = .ok (.ifCond .ne 5, 3) := by decide +kernel
theorem dX6_move_14 : decode cX6_move 14 = .ok (.iconst 0, 1) := by decide +kernel
theorem dX6_move_15 : decode cX6_move 15 = .ok (.ireturn, 1) := by decide +kernel
theorem dX6_move_16 : decode cX6_move 16 = .ok (.aload_n 0, 1) := by decide +kernel
theorem dX6_move_17 : decode cX6_move 17 = .ok (.invokevirtual 115, 3) := by decide +kernel
theorem dX6_move_20 : decode cX6_move 20 = .ok (.aload_n 0, 1) := by decide +kernel
theorem dX6_move_21 : decode cX6_move 21 = .ok (.iload_n 1, 1) := by decide +kernel
theorem dX6_move_22 : decode cX6_move 22 = .ok (.iload_n 2, 1) := by decide +kernel
theorem dX6_move_23 : decode cX6_move 23 = .ok (.iload_n 3, 1) := by decide +kernel
theorem dX6_move_24 : decode cX6_move 24 = .ok (.invokevirtual 137, 3) := by decide +kernel
theorem dX6_move_27 : decode cX6_move 27 = .ok (.aload_n 0, 1) := by decide +kernel
theorem dX6_move_28 : decode cX6_move 28 = .ok (.iload_n 1, 1) := by decide +kernel
theorem dX6_move_29 : decode cX6_move 29 = .ok (.iconst 3, 1) := by decide +kernel
theorem dX6_move_30 : decode cX6_move 30 = .ok (.invokevirtual 127, 3) := by decide +kernel
theorem dX6_move_33 : decode cX6_move 33 = .ok (.ireturn, 1) := by decide +kernel
set_option maxRecDepth 20000 in
theorem ggX6_exchange_X6_kind : GoodIn wsX6_exchange wsX6_kind := goodIn_r _ [5, 6, 15, 16, 17, 18, 19, 20, 21, 22, 23, 24, 25, 26, 27, 28, 29, 30, 31, 32, 33, 34, 35] (by decide +kernel) (by decide +kernel)
set_option maxRecDepth 20000 in
theorem gX6_exchange_X6_kind : GoodIn wsX6_exchange (wsV RX6 53 RX6 yX6_kind wsX6_kind) := goodIn_app (goodIn_of _ (by decide +kernel)) ggX6_exchange_X6_kind
set_option maxRecDepth 20000 in
theorem ggX6_exchange_X6_teeth : GoodIn wsX6_exchange wsX6_teeth := goodIn_r _ [10, 6, 15, 16, 17, 18, 19, 20, 21, 22, 23, 24, 25, 26, 27, 28, 29, 30, 31, 32, 33, 34, 35] (by decide +kernel) (by decide +kernel)
set_option maxRecDepth 20000 in
theorem gX6_exchange_X6_teeth : GoodIn wsX6_exchange (wsV RX6 60 RX6 yX6_teeth wsX6_teeth) := goodIn_app (goodIn_of _ (by decide +kernel)) ggX6_exchange_X6_teeth
set_option maxRecDepth 20000 in
theorem ggX6_exchange_X6_put : GoodIn wsX6_exchange wsX6_put := goodIn_r _ [14, 6, 15, 16, 17, 18, 19, 20, 21, 22, 23, 24, 25, 26, 27, 28, 29, 30, 31, 32, 33, 34, 35] (by decide +kernel) (by decide +kernel)
set_option maxRecDepth 20000 in
theorem gX6_exchange_X6_put : GoodIn wsX6_exchange (wsV RX6 104 RX6 yX6_put wsX6_put) := goodIn_app (goodIn_of _ (by decide +kernel)) ggX6_exchange_X6_put
theorem dX6_exchange_0 : decode cX6_exchange 0 = .ok (.aload_n 0, 1) := by decide +kernel
theorem dX6_exchange_1 : decode cX6_exchange 1 = .ok (.iload_n 1, 1) := by decide +kernel
theorem dX6_exchange_2 : decode cX6_exchange 2 = .ok (.iconst 0, 1) := by decide +kernel
theorem dX6_exchange_3 : decode cX6_exchange 3 = .ok (.invokevirtual 53, 3) := by decide +kernel
theorem dX6_exchange_6 : decode cX6_exchange 6 = .ok (.istore_n 2, 1) := by decide +kernel
theorem dX6_exchange_7 : decode cX6_exchange 7 = .ok (.aload_n 0, 1) := by decide +kernel
theorem dX6_exchange_8 : decode cX6_exchange 8 = .ok (.iload_n 1, 1) := by decide +kernel
theorem dX6_exchange_9 : decode cX6_exchange 9 = .ok (.iconst 0, 1) := by decide +kernel
theorem dX6_exchange_10 : decode cX6_exchange 10 = .ok (.invokevirtual 60, 3) := by decide +kernel
theorem dX6_exchange_13 : decode cX6_exchange 13 = .ok (.istore_n 3, 1) := by decide +kernel
theorem dX6_exchange_14 : decode cX6_exchange 14 = .ok (.aload_n 0, 1) := by decide +kernel
theorem dX6_exchange_15 : decode cX6_exchange 15 = .ok (.iload_n 1, 1) := by decide +kernel
theorem dX6_exchange_16 : decode cX6_exchange 16 = .ok (.iconst 0, 1) := by decide +kernel
theorem dX6_exchange_17 : decode cX6_exchange 17 = .ok (.aload_n 0, 1) := by decide +kernel
theorem dX6_exchange_18 : decode cX6_exchange 18 = .ok (.iload_n 1, 1) := by decide +kernel
theorem dX6_exchange_19 : decode cX6_exchange 19 = .ok (.iconst 1, 1) := by decide +kernel
theorem dX6_exchange_20 : decode cX6_exchange 20 = .ok (.invokevirtual 53, 3) := by decide +kernel
theorem dX6_exchange_23 : decode cX6_exchange 23 = .ok (.aload_n 0, 1) := by decide +kernel
theorem dX6_exchange_24 : decode cX6_exchange 24 = .ok (.iload_n 1, 1) := by decide +kernel
theorem dX6_exchange_25 : decode cX6_exchange 25 = .ok (.iconst 1, 1) := by decide +kernel
theorem dX6_exchange_26 : decode cX6_exchange 26 = .ok (.invokevirtual 60, 3) := by decide +kernel
theorem dX6_exchange_29 : decode cX6_exchange 29 = .ok (.invokevirtual 104, 3) := by decide +kernel
theorem dX6_exchange_32 : decode cX6_exchange 32 = .ok (.aload_n 0, 1) := by decide +kernel
theorem dX6_exchange_33 : decode cX6_exchange 33 = .ok (.iload_n 1, 1) := by decide +kernel
theorem dX6_exchange_34 : decode cX6_exchange 34 = .ok (.iconst 1, 1) := by decide +kernel
theorem dX6_exchange_35 : decode cX6_exchange 35 = .ok (.iload_n 2, 1) := by decide +kernel
theorem dX6_exchange_36 : decode cX6_exchange 36 = .ok (.iload_n 3, 1) := by decide +kernel
theorem dX6_exchange_37 : decode cX6_exchange 37 = .ok (.invokevirtual 104, 3) := by decide +kernel
theorem dX6_exchange_40 : decode cX6_exchange 40 = .ok (.return_, 1) := by decide +kernel
set_option maxRecDepth 20000 in
theorem ggX6_flipFault_X6_isPeg : GoodIn wsX6_flipFault wsX6_isPeg := goodIn_r _ [5, 6, 7, 8, 4, 9, 41, 42, 43, 44, 45, 46, 47, 48, 49, 50, 51, 52, 53, 54, 55, 56, 57, 58, 59, 60, 61] (by decide +kernel) (by decide +kernel)
set_option maxRecDepth 20000 in
theorem gX6_flipFault_X6_isPeg : GoodIn wsX6_flipFault (wsV RX6 121 RX6 yX6_isPeg wsX6_isPeg) := goodIn_app (goodIn_of _ (by decide +kernel)) ggX6_flipFault_X6_isPeg
set_option maxRecDepth 20000 in
theorem ggX6_flipFault_X6_exchange : GoodIn wsX6_flipFault wsX6_exchange := goodIn_r _ [13, 14, 15, 16, 4, 17, 6, 18, 19, 20, 21, 22, 23, 24, 25, 41, 42, 43, 44, 45, 46, 47, 48, 49, 50, 51, 52, 53, 54, 55, 56, 57, 58, 59, 60, 61] (by decide +kernel) (by decide +kernel)
set_option maxRecDepth 20000 in
theorem gX6_flipFault_X6_exchange : GoodIn wsX6_flipFault (wsV RX6 145 RX6 yX6_exchange wsX6_exchange) := goodIn_app (goodIn_of _ (by decide +kernel)) ggX6_flipFault_X6_exchange
set_option maxRecDepth 20000 in
theorem ggX6_flipFault_X6_overlaps : GoodIn wsX6_flipFault wsX6_overlaps := goodIn_r _ [29, 6, 30, 31, 32, 4, 33, 14, 15, 16, 17, 34, 35, 36, 37, 18, 19, 20, 21, 38, 39, 40, 41, 42, 43, 44, 45, 46, 47, 48, 49, 50, 51, 52, 53, 54, 55, 56, 57, 58, 59, 60, 61] (by decide +kernel) (by decide +kernel)
set_option maxRecDepth 20000 in
theorem gX6_flipFault_X6_overlaps : GoodIn wsX6_flipFault (wsV RX6 124 RX6 yX6_overlaps wsX6_overlaps) := goodIn_app (goodIn_of _ (by decide +kernel)) ggX6_flipFault_X6_overlaps
theorem dX6_flipFault_0 : decode cX6_flipFault 0 = .ok (.aload_n 0, 1) := by decide +kernel
theorem dX6_flipFault_1 : decode cX6_flipFault 1 = .ok (.iload_n 1, 1) := by decide +kernel
theorem dX6_flipFault_2 : decode cX6_flipFault 2 = .ok (.invokevirtual 121, 3) := by decide +kernel
theorem dX6_flipFault_5 : decode cX6_flipFault 5 = .ok (.ifCond .ne 5, 3) := by decide +kernel
theorem dX6_flipFault_8 : decode cX6_flipFault 8 = .ok (.iconst 1, 1) := by decide +kernel
theorem dX6_flipFault_9 : decode cX6_flipFault 9 = .ok (.ireturn, 1) := by decide +kernel
theorem dX6_flipFault_10 : decode cX6_flipFault 10 = .ok (.aload_n 0, 1) := by decide +kernel
theorem dX6_flipFault_11 : decode cX6_flipFault 11 = .ok (.iload_n 1, 1) := by decide +kernel
theorem dX6_flipFault_12 : decode cX6_flipFault 12 = .ok (.invokevirtual 145, 3) := by decide +kernel
theorem dX6_flipFault_15 : decode cX6_flipFault 15 = .ok (.aload_n 0, 1) := by decide +kernel
theorem dX6_flipFault_16 : decode cX6_flipFault 16 = .ok (.iload_n 1, 1) := by decide +kernel
theorem dX6_flipFault_17 : decode cX6_flipFault 17 = .ok (.iconst 0, 1) := by decide +kernel
theorem dX6_flipFault_18 : decode cX6_flipFault 18 = .ok (.invokevirtual 124, 3) := by decide +kernel
theorem dX6_flipFault_21 : decode cX6_flipFault 21 = .ok (.aload_n 0, 1) := by decide +kernel
theorem dX6_flipFault_22 : decode cX6_flipFault 22 = .ok (.iload_n 1, 1) := by decide +kernel
theorem dX6_flipFault_23 : decode cX6_flipFault 23 = .ok (.iconst 1, 1) := by decide +kernel
theorem dX6_flipFault_24 : decode cX6_flipFault 24 = .ok (.invokevirtual 124, 3) := by decide +kernel
theorem dX6_flipFault_27 : decode cX6_flipFault 27 = .ok (.iadd, 1) := by decide +kernel
theorem dX6_flipFault_28 : decode cX6_flipFault 28 = .ok (.istore_n 2, 1) := by decide +kernel
theorem dX6_flipFault_29 : decode cX6_flipFault 29 = .ok (.aload_n 0, 1) := by decide +kernel
theorem dX6_flipFault_30 : decode cX6_flipFault 30 = .ok (.iload_n 1, 1) := by decide +kernel
theorem dX6_flipFault_31 : decode cX6_flipFault 31 = .ok (.invokevirtual 145, 3) := by decide +kernel
theorem dX6_flipFault_34 : decode cX6_flipFault 34 = .ok (.iload_n 2, 1) := by decide +kernel
theorem dX6_flipFault_35 : decode cX6_flipFault 35 = .ok (.ifCond .le 7, 3) := by decide +kernel
theorem dX6_flipFault_38 : decode cX6_flipFault 38 = .ok (.iconst 2, 1) := by decide +kernel
theorem dX6_flipFault_39 : decode cX6_flipFault 39 = .ok (.goto 4, 3) := by decide +kernel
theorem dX6_flipFault_42 : decode cX6_flipFault 42 = .ok (.iconst 0, 1) := by decide +kernel
theorem dX6_flipFault_43 : decode cX6_flipFault 43 = .ok (.ireturn, 1) := by decide +kernel
set_option maxRecDepth 20000 in
theorem ggX6_flip_X6_flipFault : GoodIn wsX6_flip wsX6_flipFault := goodIn_r _ [5, 6, 7, 8, 4, 9, 10, 11, 12, 13, 14, 15, 16, 17, 18, 19, 20, 21, 22, 23, 24, 25, 26, 27, 28, 29, 30, 31, 32, 33, 34, 35, 36, 37, 38, 39, 40, 41, 42, 43, 44, 68, 69, 70, 71, 72, 73, 74, 75, 76, 77, 78, 79, 80, 81, 82, 83, 84, 85, 86, 87, 88] (by decide +kernel) (by decide +kernel)
set_option maxRecDepth 20000 in
theorem gX6_flip_X6_flipFault : GoodIn wsX6_flip (wsV RX6 149 RX6 yX6_flipFault wsX6_flipFault) := goodIn_app (goodIn_of _ (by decide +kernel)) ggX6_flip_X6_flipFault
set_option maxRecDepth 20000 in
theorem ggX6_flip_X6_holds : GoodIn wsX6_flip wsX6_holds := goodIn_r _ [48, 49, 68, 69, 70, 71, 72, 73, 74, 75, 76, 77, 78, 79, 80, 81, 82, 83, 84, 85, 86, 87, 88] (by decide +kernel) (by decide +kernel)
set_option maxRecDepth 20000 in
theorem gX6_flip_X6_holds : GoodIn wsX6_flip (wsV RX6 111 RX6 yX6_holds wsX6_holds) := goodIn_app (goodIn_of _ (by decide +kernel)) ggX6_flip_X6_holds
set_option maxRecDepth 20000 in
theorem ggX6_flip_X6_save : GoodIn wsX6_flip wsX6_save := goodIn_r _ [53, 54, 55, 10, 68, 69, 70, 71, 72, 73, 74, 75, 76, 77, 78, 79, 80, 81, 82, 83, 84, 85, 86, 87, 88] (by decide +kernel) (by decide +kernel)
set_option maxRecDepth 20000 in
theorem gX6_flip_X6_save : GoodIn wsX6_flip (wsV RX6 115 RX6 yX6_save wsX6_save) := goodIn_app (goodIn_of _ (by decide +kernel)) ggX6_flip_X6_save
set_option maxRecDepth 20000 in
theorem ggX6_flip_X6_exchange : GoodIn wsX6_flip wsX6_exchange := goodIn_r _ [17, 18, 19, 20, 4, 21, 10, 22, 23, 24, 25, 26, 27, 28, 29, 68, 69, 70, 71, 72, 73, 74, 75, 76, 77, 78, 79, 80, 81, 82, 83, 84, 85, 86, 87, 88] (by decide +kernel) (by decide +kernel)
set_option maxRecDepth 20000 in
theorem gX6_flip_X6_exchange : GoodIn wsX6_flip (wsV RX6 145 RX6 yX6_exchange wsX6_exchange) := goodIn_app (goodIn_of _ (by decide +kernel)) ggX6_flip_X6_exchange
set_option maxRecDepth 20000 in
theorem ggX6_flip_X6_partners : GoodIn wsX6_flip wsX6_partners := goodIn_r _ [59, 10, 60, 61, 62, 4, 63, 64, 65, 66, 67, 34, 35, 36, 37, 18, 19, 20, 21, 38, 39, 40, 41, 22, 23, 24, 25, 42, 43, 44, 68, 69, 70, 71, 72, 73, 74, 75, 76, 77, 78, 79, 80, 81, 82, 83, 84, 85, 86, 87, 88] (by decide +kernel) (by decide +kernel)
set_option maxRecDepth 20000 in
theorem gX6_flip_X6_partners : GoodIn wsX6_flip (wsV RX6 127 RX6 yX6_partners wsX6_partners) := goodIn_app (goodIn_of _ (by decide +kernel)) ggX6_flip_X6_partners
theorem dX6_flip_0 : decode cX6_flip 0 = .ok (.aload_n 0, 1) := by decide +kernel
theorem dX6_flip_1 : decode cX6_flip 1 = .ok (.aload_n 0, 1) := by decide +kernel
theorem dX6_flip_2 : decode cX6_flip 2 = .ok (.iload_n 1, 1) := by decide +kernel
theorem dX6_flip_3 : decode cX6_flip 3 = .ok (.invokevirtual 149, 3) := by decide +kernel
theorem dX6_flip_6 : decode cX6_flip 6 = .ok (.invokevirtual 111, 3) := by decide +kernel
theorem dX6_flip_9 : decode cX6_flip 9 = .ok (.ifCond .ne 5, 3) := by decide +kernel
theorem dX6_flip_12 : decode cX6_flip 12 = .ok (.iconst 0, 1) := by decide +kernel
theorem dX6_flip_13 : decode cX6_flip 13 = .ok (.ireturn, 1) := by decide +kernel
theorem dX6_flip_14 : decode cX6_flip 14 = .ok (.aload_n 0, 1) := by decide +kernel
theorem dX6_flip_15 : decode cX6_flip 15 = .ok (.invokevirtual 115, 3) := by decide +kernel
theorem dX6_flip_18 : decode cX6_flip 18 = .ok (.aload_n 0, 1) := by decide +kernel
theorem dX6_flip_19 : decode cX6_flip 19 = .ok (.iload_n 1, 1) := by decide +kernel
theorem dX6_flip_20 : decode cX6_flip 20 = .ok (.invokevirtual 145, 3) := by decide +kernel
theorem dX6_flip_23 : decode cX6_flip 23 = .ok (.aload_n 0, 1) := by decide +kernel
theorem dX6_flip_24 : decode cX6_flip 24 = .ok (.iload_n 1, 1) := by decide +kernel
theorem dX6_flip_25 : decode cX6_flip 25 = .ok (.iconst 3, 1) := by decide +kernel
theorem dX6_flip_26 : decode cX6_flip 26 = .ok (.invokevirtual 127, 3) := by decide +kernel
theorem dX6_flip_29 : decode cX6_flip 29 = .ok (.ireturn, 1) := by decide +kernel
theorem dX6_drives_0 : decode cX6_drives 0 = .ok (.aload_n 0, 1) := by decide +kernel
theorem dX6_drives_1 : decode cX6_drives 1 = .ok (.getfield 7, 3) := by decide +kernel
theorem dX6_drives_4 : decode cX6_drives 4 = .ok (.bipush 55, 2) := by decide +kernel
theorem dX6_drives_6 : decode cX6_drives 6 = .ok (.iaload, 1) := by decide +kernel
theorem dX6_drives_7 : decode cX6_drives 7 = .ok (.istore_n 2, 1) := by decide +kernel
theorem dX6_drives_8 : decode cX6_drives 8 = .ok (.aload_n 0, 1) := by decide +kernel
theorem dX6_drives_9 : decode cX6_drives 9 = .ok (.getfield 7, 3) := by decide +kernel
theorem dX6_drives_12 : decode cX6_drives 12 = .ok (.bipush 55, 2) := by decide +kernel
theorem dX6_drives_14 : decode cX6_drives 14 = .ok (.iload_n 1, 1) := by decide +kernel
theorem dX6_drives_15 : decode cX6_drives 15 = .ok (.iastore, 1) := by decide +kernel
theorem dX6_drives_16 : decode cX6_drives 16 = .ok (.iload_n 2, 1) := by decide +kernel
theorem dX6_drives_17 : decode cX6_drives 17 = .ok (.ireturn, 1) := by decide +kernel
set_option maxRecDepth 20000 in
theorem ggX6_drive_X6_isPeg : GoodIn wsX6_drive wsX6_isPeg := goodIn_r _ [5, 6, 7, 8, 4, 9, 25, 26, 27, 28, 29, 30, 31, 32, 33, 34, 35, 36, 37, 38, 39, 40, 41, 42, 43, 44, 45] (by decide +kernel) (by decide +kernel)
set_option maxRecDepth 20000 in
theorem gX6_drive_X6_isPeg : GoodIn wsX6_drive (wsV RX6 121 RX6 yX6_isPeg wsX6_isPeg) := goodIn_app (goodIn_of _ (by decide +kernel)) ggX6_drive_X6_isPeg
set_option maxRecDepth 20000 in
theorem ggX6_drive_X6_holds : GoodIn wsX6_drive wsX6_holds := goodIn_r _ [13, 14, 25, 26, 27, 28, 29, 30, 31, 32, 33, 34, 35, 36, 37, 38, 39, 40, 41, 42, 43, 44, 45] (by decide +kernel) (by decide +kernel)
set_option maxRecDepth 20000 in
theorem gX6_drive_X6_holds : GoodIn wsX6_drive (wsV RX6 111 RX6 yX6_holds wsX6_holds) := goodIn_app (goodIn_of _ (by decide +kernel)) ggX6_drive_X6_holds
set_option maxRecDepth 20000 in
theorem ggX6_drive_X6_save : GoodIn wsX6_drive wsX6_save := goodIn_r _ [18, 19, 20, 6, 25, 26, 27, 28, 29, 30, 31, 32, 33, 34, 35, 36, 37, 38, 39, 40, 41, 42, 43, 44, 45] (by decide +kernel) (by decide +kernel)
set_option maxRecDepth 20000 in
theorem gX6_drive_X6_save : GoodIn wsX6_drive (wsV RX6 115 RX6 yX6_save wsX6_save) := goodIn_app (goodIn_of _ (by decide +kernel)) ggX6_drive_X6_save
set_option maxRecDepth 20000 in
theorem ggX6_drive_X6_drives : GoodIn wsX6_drive wsX6_drives := goodIn_r _ [24, 6, 25, 26, 27, 28, 29, 30, 31, 32, 33, 34, 35, 36, 37, 38, 39, 40, 41, 42, 43, 44, 45] (by decide +kernel) (by decide +kernel)
set_option maxRecDepth 20000 in
theorem gX6_drive_X6_drives : GoodIn wsX6_drive (wsV RX6 153 RX6 yX6_drives wsX6_drives) := goodIn_app (goodIn_of _ (by decide +kernel)) ggX6_drive_X6_drives
theorem dX6_drive_0 : decode cX6_drive 0 = .ok (.aload_n 0, 1) := by decide +kernel
theorem dX6_drive_1 : decode cX6_drive 1 = .ok (.aload_n 0, 1) := by decide +kernel
theorem dX6_drive_2 : decode cX6_drive 2 = .ok (.iload_n 1, 1) := by decide +kernel
theorem dX6_drive_3 : decode cX6_drive 3 = .ok (.invokevirtual 121, 3) := by decide +kernel
theorem dX6_drive_6 : decode cX6_drive 6 = .ok (.ifCond .eq 7, 3) := by decide +kernel
theorem dX6_drive_9 : decode cX6_drive 9 = .ok (.iconst 0, 1) := by decide +kernel
theorem dX6_drive_10 : decode cX6_drive 10 = .ok (.goto 4, 3) := by decide +kernel
theorem dX6_drive_13 : decode cX6_drive 13 = .ok (.iconst 1, 1) := by decide +kernel
theorem dX6_drive_14 : decode cX6_drive 14 = .ok (.invokevirtual 111, 3) := by decide +kernel
theorem dX6_drive_17 : decode cX6_drive 17 = .ok (.ifCond .ne 5, 3) := by decide +kernel
theorem dX6_drive_20 : decode cX6_drive 20 = .ok (.iconst 0, 1) := by decide +kernel
theorem dX6_drive_21 : decode cX6_drive 21 = .ok (.ireturn, 1) := by decide +kernel
theorem dX6_drive_22 : decode cX6_drive 22 = .ok (.aload_n 0, 1) := by decide +kernel
theorem dX6_drive_23 : decode cX6_drive 23 = .ok (.invokevirtual 115, 3) := by decide +kernel
theorem dX6_drive_26 : decode cX6_drive 26 = .ok (.aload_n 0, 1) := by decide +kernel
theorem dX6_drive_27 : decode cX6_drive 27 = .ok (.iload_n 1, 1) := by decide +kernel
theorem dX6_drive_28 : decode cX6_drive 28 = .ok (.invokevirtual 153, 3) := by decide +kernel
theorem dX6_drive_31 : decode cX6_drive 31 = .ok (.ireturn, 1) := by decide +kernel
set_option maxRecDepth 20000 in
theorem ggX6_goal_X6_isPeg : GoodIn wsX6_goal wsX6_isPeg := goodIn_r _ [6, 1, 7, 8, 5, 9, 66, 67, 68, 69, 70, 71, 72, 73, 74, 75, 76, 77, 78, 79, 80, 81, 82, 83, 84, 85, 86] (by decide +kernel) (by decide +kernel)
set_option maxRecDepth 20000 in
theorem gX6_goal_X6_isPeg : GoodIn wsX6_goal (wsV RX6 121 RX6 yX6_isPeg wsX6_isPeg) := goodIn_app (goodIn_of _ (by decide +kernel)) ggX6_goal_X6_isPeg
set_option maxRecDepth 20000 in
theorem ggX6_goal_X6_in : GoodIn wsX6_goal wsX6_in := goodIn_r _ [9] (by decide +kernel) (by decide +kernel)
set_option maxRecDepth 20000 in
theorem gX6_goal_X6_in : GoodIn wsX6_goal (va_wsS RX6 46 yX6_in wsX6_in) := goodIn_app (goodIn_of _ (by decide +kernel)) ggX6_goal_X6_in
set_option maxRecDepth 20000 in
theorem ggX6_goal_X6_holds : GoodIn wsX6_goal wsX6_holds := goodIn_r _ [13, 14, 66, 67, 68, 69, 70, 71, 72, 73, 74, 75, 76, 77, 78, 79, 80, 81, 82, 83, 84, 85, 86] (by decide +kernel) (by decide +kernel)
set_option maxRecDepth 20000 in
theorem gX6_goal_X6_holds : GoodIn wsX6_goal (wsV RX6 111 RX6 yX6_holds wsX6_holds) := goodIn_app (goodIn_of _ (by decide +kernel)) ggX6_goal_X6_holds
set_option maxRecDepth 20000 in
theorem ggX6_goal_X6_save : GoodIn wsX6_goal wsX6_save := goodIn_r _ [18, 19, 20, 1, 66, 67, 68, 69, 70, 71, 72, 73, 74, 75, 76, 77, 78, 79, 80, 81, 82, 83, 84, 85, 86] (by decide +kernel) (by decide +kernel)
set_option maxRecDepth 20000 in
theorem gX6_goal_X6_save : GoodIn wsX6_goal (wsV RX6 115 RX6 yX6_save wsX6_save) := goodIn_app (goodIn_of _ (by decide +kernel)) ggX6_goal_X6_save
set_option maxRecDepth 20000 in
theorem ggX6_goal_X6_common : GoodIn wsX6_goal wsX6_common := goodIn_r _ [23] (by decide +kernel) (by decide +kernel)
set_option maxRecDepth 20000 in
theorem gX6_goal_X6_common : GoodIn wsX6_goal (va_wsS RX6 78 yX6_common wsX6_common) := goodIn_app (goodIn_of _ (by decide +kernel)) ggX6_goal_X6_common
set_option maxRecDepth 20000 in
theorem ggX6_goal_X6_layOut : GoodIn wsX6_goal wsX6_layOut := goodIn_r _ [27, 28, 29, 1, 30, 31, 32, 33, 34, 35, 36, 5, 37, 38, 39, 40, 41, 42, 43, 44, 45, 46, 47, 48, 49, 50, 51, 52, 53, 54, 55, 56, 57, 58, 59, 60, 61, 21, 22, 23, 66, 67, 68, 69, 70, 71, 72, 73, 74, 75, 76, 77, 78, 79, 80, 81, 82, 83, 84, 85, 86] (by decide +kernel) (by decide +kernel)
set_option maxRecDepth 20000 in
theorem gX6_goal_X6_layOut : GoodIn wsX6_goal (wsV RX6 156 RX6 yX6_layOut wsX6_layOut) := goodIn_app (goodIn_of _ (by decide +kernel)) ggX6_goal_X6_layOut
set_option maxRecDepth 20000 in
theorem ggX6_goal_X6_isReached : GoodIn wsX6_goal wsX6_isReached := goodIn_r _ [65, 1, 30, 31, 66, 67, 68, 69, 70, 71, 72, 73, 74, 75, 76, 77, 78, 79, 80, 81, 82, 83, 84, 85, 86] (by decide +kernel) (by decide +kernel)
set_option maxRecDepth 20000 in
theorem gX6_goal_X6_isReached : GoodIn wsX6_goal (wsV RX6 159 RX6 yX6_isReached wsX6_isReached) := goodIn_app (goodIn_of _ (by decide +kernel)) ggX6_goal_X6_isReached
theorem dX6_goal_0 : decode cX6_goal 0 = .ok (.aload_n 0, 1) := by decide +kernel
theorem dX6_goal_1 : decode cX6_goal 1 = .ok (.aload_n 0, 1) := by decide +kernel
theorem dX6_goal_2 : decode cX6_goal 2 = .ok (.iload_n 1, 1) := by decide +kernel
theorem dX6_goal_3 : decode cX6_goal 3 = .ok (.invokevirtual 121, 3) := by decide +kernel
theorem dX6_goal_6 : decode cX6_goal 6 = .ok (.ifCond .ne 7, 3) := by decide +kernel
theorem dX6_goal_9 : decode cX6_goal 9 = .ok (.iconst 1, 1) := by decide +kernel
theorem dX6_goal_10 : decode cX6_goal 10 = .ok (.goto 29, 3) := by decide +kernel
theorem dX6_goal_13 : decode cX6_goal 13 = .ok (.iload_n 2, 1) := by decide +kernel
theorem dX6_goal_14 : decode cX6_goal 14 = .ok (.bipush (-99), 2) := by decide +kernel
theorem dX6_goal_16 : decode cX6_goal 16 = .ok (.bipush 99, 2) := by decide +kernel
theorem dX6_goal_18 : decode cX6_goal 18 = .ok (.invokestatic 46, 3) := by decide +kernel
theorem dX6_goal_21 : decode cX6_goal 21 = .ok (.ifCond .eq 13, 3) := by decide +kernel
theorem dX6_goal_24 : decode cX6_goal 24 = .ok (.iload_n 3, 1) := by decide +kernel
theorem dX6_goal_25 : decode cX6_goal 25 = .ok (.iconst 1, 1) := by decide +kernel
theorem dX6_goal_26 : decode cX6_goal 26 = .ok (.bipush 99, 2) := by decide +kernel
theorem dX6_goal_28 : decode cX6_goal 28 = .ok (.invokestatic 46, 3) := by decide +kernel
theorem dX6_goal_31 : decode cX6_goal 31 = .ok (.ifCond .ne 7, 3) := by decide +kernel
theorem dX6_goal_34 : decode cX6_goal 34 = .ok (.iconst 2, 1) := by decide +kernel
theorem dX6_goal_35 : decode cX6_goal 35 = .ok (.goto 4, 3) := by decide +kernel
theorem dX6_goal_38 : decode cX6_goal 38 = .ok (.iconst 0, 1) := by decide +kernel
theorem dX6_goal_39 : decode cX6_goal 39 = .ok (.invokevirtual 111, 3) := by decide +kernel
theorem dX6_goal_42 : decode cX6_goal 42 = .ok (.ifCond .ne 5, 3) := by decide +kernel
theorem dX6_goal_45 : decode cX6_goal 45 = .ok (.iconst 0, 1) := by decide +kernel
theorem dX6_goal_46 : decode cX6_goal 46 = .ok (.ireturn, 1) := by decide +kernel
theorem dX6_goal_47 : decode cX6_goal 47 = .ok (.aload_n 0, 1) := by decide +kernel
theorem dX6_goal_48 : decode cX6_goal 48 = .ok (.invokevirtual 115, 3) := by decide +kernel
theorem dX6_goal_51 : decode cX6_goal 51 = .ok (.iload_n 2, 1) := by decide +kernel
theorem dX6_goal_52 : decode cX6_goal 52 = .ok (.i2l, 1) := by decide +kernel
theorem dX6_goal_53 : decode cX6_goal 53 = .ok (.iload_n 3, 1) := by decide +kernel
theorem dX6_goal_54 : decode cX6_goal 54 = .ok (.i2l, 1) := by decide +kernel
theorem dX6_goal_55 : decode cX6_goal 55 = .ok (.invokestatic 78, 3) := by decide +kernel
theorem dX6_goal_58 : decode cX6_goal 58 = .ok (.l2i, 1) := by decide +kernel
theorem dX6_goal_59 : decode cX6_goal 59 = .ok (.istore 4, 2) := by decide +kernel
theorem dX6_goal_61 : decode cX6_goal 61 = .ok (.aload_n 0, 1) := by decide +kernel
theorem dX6_goal_62 : decode cX6_goal 62 = .ok (.getfield 7, 3) := by decide +kernel
theorem dX6_goal_65 : decode cX6_goal 65 = .ok (.bipush 56, 2) := by decide +kernel
theorem dX6_goal_67 : decode cX6_goal 67 = .ok (.iload_n 1, 1) := by decide +kernel
theorem dX6_goal_68 : decode cX6_goal 68 = .ok (.iastore, 1) := by decide +kernel
theorem dX6_goal_69 : decode cX6_goal 69 = .ok (.aload_n 0, 1) := by decide +kernel
theorem dX6_goal_70 : decode cX6_goal 70 = .ok (.getfield 7, 3) := by decide +kernel
theorem dX6_goal_73 : decode cX6_goal 73 = .ok (.bipush 57, 2) := by decide +kernel
theorem dX6_goal_75 : decode cX6_goal 75 = .ok (.iload_n 2, 1) := by decide +kernel
theorem dX6_goal_76 : decode cX6_goal 76 = .ok (.iload 4, 2) := by decide +kernel
theorem dX6_goal_78 : decode cX6_goal 78 = .ok (.idiv, 1) := by decide +kernel
theorem dX6_goal_79 : decode cX6_goal 79 = .ok (.iastore, 1) := by decide +kernel
theorem dX6_goal_80 : decode cX6_goal 80 = .ok (.aload_n 0, 1) := by decide +kernel
theorem dX6_goal_81 : decode cX6_goal 81 = .ok (.getfield 7, 3) := by decide +kernel
theorem dX6_goal_84 : decode cX6_goal 84 = .ok (.bipush 58, 2) := by decide +kernel
theorem dX6_goal_86 : decode cX6_goal 86 = .ok (.iload_n 3, 1) := by decide +kernel
theorem dX6_goal_87 : decode cX6_goal 87 = .ok (.iload 4, 2) := by decide +kernel
theorem dX6_goal_89 : decode cX6_goal 89 = .ok (.idiv, 1) := by decide +kernel
theorem dX6_goal_90 : decode cX6_goal 90 = .ok (.iastore, 1) := by decide +kernel
theorem dX6_goal_91 : decode cX6_goal 91 = .ok (.aload_n 0, 1) := by decide +kernel
theorem dX6_goal_92 : decode cX6_goal 92 = .ok (.invokevirtual 156, 3) := by decide +kernel
theorem dX6_goal_95 : decode cX6_goal 95 = .ok (.aload_n 0, 1) := by decide +kernel
theorem dX6_goal_96 : decode cX6_goal 96 = .ok (.invokevirtual 159, 3) := by decide +kernel
theorem dX6_goal_99 : decode cX6_goal 99 = .ok (.ifCond .eq 7, 3) := by decide +kernel
theorem dX6_goal_102 : decode cX6_goal 102 = .ok (.iconst 1, 1) := by decide +kernel
theorem dX6_goal_103 : decode cX6_goal 103 = .ok (.goto 4, 3) := by decide +kernel
theorem dX6_goal_106 : decode cX6_goal 106 = .ok (.iconst 0, 1) := by decide +kernel
theorem dX6_goal_107 : decode cX6_goal 107 = .ok (.ireturn, 1) := by decide +kernel
set_option maxRecDepth 20000 in
theorem ggX6_set_X6_in : GoodIn wsX6_set wsX6_in := goodIn_r _ [5] (by decide +kernel) (by decide +kernel)
set_option maxRecDepth 20000 in
theorem gX6_set_X6_in : GoodIn wsX6_set (va_wsS RX6 46 yX6_in wsX6_in) := goodIn_app (goodIn_of _ (by decide +kernel)) ggX6_set_X6_in
set_option maxRecDepth 20000 in
theorem ggX6_set_X6_holds : GoodIn wsX6_set wsX6_holds := goodIn_r _ [9, 10, 17, 18, 19, 20, 21, 22, 23, 24, 25, 26, 27, 28, 29, 30, 31, 32, 33, 34, 35, 36, 37] (by decide +kernel) (by decide +kernel)
set_option maxRecDepth 20000 in
theorem gX6_set_X6_holds : GoodIn wsX6_set (wsV RX6 111 RX6 yX6_holds wsX6_holds) := goodIn_app (goodIn_of _ (by decide +kernel)) ggX6_set_X6_holds
set_option maxRecDepth 20000 in
theorem ggX6_set_X6_save : GoodIn wsX6_set wsX6_save := goodIn_r _ [14, 15, 16, 1, 17, 18, 19, 20, 21, 22, 23, 24, 25, 26, 27, 28, 29, 30, 31, 32, 33, 34, 35, 36, 37] (by decide +kernel) (by decide +kernel)
set_option maxRecDepth 20000 in
theorem gX6_set_X6_save : GoodIn wsX6_set (wsV RX6 115 RX6 yX6_save wsX6_save) := goodIn_app (goodIn_of _ (by decide +kernel)) ggX6_set_X6_save
theorem dX6_set_0 : decode cX6_set 0 = .ok (.aload_n 0, 1) := by decide +kernel
theorem dX6_set_1 : decode cX6_set 1 = .ok (.iload_n 1, 1) := by decide +kernel
theorem dX6_set_2 : decode cX6_set 2 = .ok (.iconst 0, 1) := by decide +kernel
theorem dX6_set_3 : decode cX6_set 3 = .ok (.iconst 3, 1) := by decide +kernel
theorem dX6_set_4 : decode cX6_set 4 = .ok (.invokestatic 46, 3) := by decide +kernel
theorem dX6_set_7 : decode cX6_set 7 = .ok (.ifCond .eq 7, 3) := by decide +kernel
theorem dX6_set_10 : decode cX6_set 10 = .ok (.iconst 0, 1) := by decide +kernel
theorem dX6_set_11 : decode cX6_set 11 = .ok (.goto 4, 3) := by decide +kernel
theorem dX6_set_14 : decode cX6_set 14 = .ok (.iconst 1, 1) := by decide +kernel
theorem dX6_set_15 : decode cX6_set 15 = .ok (.invokevirtual 111, 3) := by decide +kernel
theorem dX6_set_18 : decode cX6_set 18 = .ok (.ifCond .ne 5, 3) := by decide +kernel
theorem dX6_set_21 : decode cX6_set 21 = .ok (.iconst 0, 1) := by decide +kernel
theorem dX6_set_22 : decode cX6_set 22 = .ok (.ireturn, 1) := by decide +kernel
theorem dX6_set_23 : decode cX6_set 23 = .ok (.aload_n 0, 1) := by decide +kernel
theorem dX6_set_24 : decode cX6_set 24 = .ok (.invokevirtual 115, 3) := by decide +kernel
theorem dX6_set_27 : decode cX6_set 27 = .ok (.aload_n 0, 1) := by decide +kernel
theorem dX6_set_28 : decode cX6_set 28 = .ok (.getfield 7, 3) := by decide +kernel
theorem dX6_set_31 : decode cX6_set 31 = .ok (.bipush 59, 2) := by decide +kernel
theorem dX6_set_33 : decode cX6_set 33 = .ok (.iaload, 1) := by decide +kernel
theorem dX6_set_34 : decode cX6_set 34 = .ok (.istore_n 2, 1) := by decide +kernel
theorem dX6_set_35 : decode cX6_set 35 = .ok (.aload_n 0, 1) := by decide +kernel
theorem dX6_set_36 : decode cX6_set 36 = .ok (.getfield 7, 3) := by decide +kernel
theorem dX6_set_39 : decode cX6_set 39 = .ok (.bipush 59, 2) := by decide +kernel
theorem dX6_set_41 : decode cX6_set 41 = .ok (.iload_n 1, 1) := by decide +kernel
theorem dX6_set_42 : decode cX6_set 42 = .ok (.iastore, 1) := by decide +kernel
theorem dX6_set_43 : decode cX6_set 43 = .ok (.iload_n 2, 1) := by decide +kernel
theorem dX6_set_44 : decode cX6_set 44 = .ok (.ireturn, 1) := by decide +kernel
set_option maxRecDepth 20000 in
theorem ggX6_append_X6_in : GoodIn wsX6_append wsX6_in := goodIn_r _ [6] (by decide +kernel) (by decide +kernel)
set_option maxRecDepth 20000 in
theorem gX6_append_X6_in : GoodIn wsX6_append (va_wsS RX6 46 yX6_in wsX6_in) := goodIn_app (goodIn_of _ (by decide +kernel)) ggX6_append_X6_in
set_option maxRecDepth 20000 in
theorem ggX6_append_X6_holds : GoodIn wsX6_append wsX6_holds := goodIn_r _ [10, 11, 12, 13, 14, 15, 16, 17, 18, 19, 20, 21, 22, 23, 24, 25, 26, 27, 28, 29, 30, 31, 32] (by decide +kernel) (by decide +kernel)
set_option maxRecDepth 20000 in
theorem gX6_append_X6_holds : GoodIn wsX6_append (wsV RX6 111 RX6 yX6_holds wsX6_holds) := goodIn_app (goodIn_of _ (by decide +kernel)) ggX6_append_X6_holds
theorem dX6_append_0 : decode cX6_append 0 = .ok (.aload_n 0, 1) := by decide +kernel
theorem dX6_append_1 : decode cX6_append 1 = .ok (.iload_n 1, 1) := by decide +kernel
theorem dX6_append_2 : decode cX6_append 2 = .ok (.bipush 33, 2) := by decide +kernel
theorem dX6_append_4 : decode cX6_append 4 = .ok (.bipush 126, 2) := by decide +kernel
theorem dX6_append_6 : decode cX6_append 6 = .ok (.invokestatic 46, 3) := by decide +kernel
theorem dX6_append_9 : decode cX6_append 9 = .ok (.ifCond .ne 7, 3) := by decide +kernel
theorem dX6_append_12 : decode cX6_append 12 = .ok (.iconst 1, 1) := by decide +kernel
theorem dX6_append_13 : decode cX6_append 13 = .ok (.goto 17, 3) := by decide +kernel
theorem dX6_append_16 : decode cX6_append 16 = .ok (.aload_n 0, 1) := by decide +kernel
theorem dX6_append_17 : decode cX6_append 17 = .ok (.getfield 163, 3) := by decide +kernel
theorem dX6_append_20 : decode cX6_append 20 = .ok (.bipush 60, 2) := by decide +kernel
theorem dX6_append_22 : decode cX6_append 22 = .ok (.if_icmp .ne 7, 3) := by decide +kernel
theorem dX6_append_25 : decode cX6_append 25 = .ok (.iconst 2, 1) := by decide +kernel
theorem dX6_append_26 : decode cX6_append 26 = .ok (.goto 4, 3) := by decide +kernel
theorem dX6_append_29 : decode cX6_append 29 = .ok (.iconst 0, 1) := by decide +kernel
theorem dX6_append_30 : decode cX6_append 30 = .ok (.invokevirtual 111, 3) := by decide +kernel
theorem dX6_append_33 : decode cX6_append 33 = .ok (.ifCond .ne 5, 3) := by decide +kernel
theorem dX6_append_36 : decode cX6_append 36 = .ok (.iconst 0, 1) := by decide +kernel
theorem dX6_append_37 : decode cX6_append 37 = .ok (.ireturn, 1) := by decide +kernel
theorem dX6_append_38 : decode cX6_append 38 = .ok (.aload_n 0, 1) := by decide +kernel
theorem dX6_append_39 : decode cX6_append 39 = .ok (.getfield 19, 3) := by decide +kernel
theorem dX6_append_42 : decode cX6_append 42 = .ok (.aload_n 0, 1) := by decide +kernel
theorem dX6_append_43 : decode cX6_append 43 = .ok (.getfield 163, 3) := by decide +kernel
theorem dX6_append_46 : decode cX6_append 46 = .ok (.iload_n 1, 1) := by decide +kernel
theorem dX6_append_47 : decode cX6_append 47 = .ok (.iastore, 1) := by decide +kernel
theorem dX6_append_48 : decode cX6_append 48 = .ok (.aload_n 0, 1) := by decide +kernel
theorem dX6_append_49 : decode cX6_append 49 = .ok (.dup, 1) := by decide +kernel
theorem dX6_append_50 : decode cX6_append 50 = .ok (.getfield 163, 3) := by decide +kernel
theorem dX6_append_53 : decode cX6_append 53 = .ok (.iconst 1, 1) := by decide +kernel
theorem dX6_append_54 : decode cX6_append 54 = .ok (.iadd, 1) := by decide +kernel
theorem dX6_append_55 : decode cX6_append 55 = .ok (.putfield 163, 3) := by decide +kernel
theorem dX6_append_58 : decode cX6_append 58 = .ok (.aload_n 0, 1) := by decide +kernel
theorem dX6_append_59 : decode cX6_append 59 = .ok (.getfield 163, 3) := by decide +kernel
theorem dX6_append_62 : decode cX6_append 62 = .ok (.ireturn, 1) := by decide +kernel
theorem dX6_clearBuffer_0 : decode cX6_clearBuffer 0 = .ok (.aload_n 0, 1) := by decide +kernel
theorem dX6_clearBuffer_1 : decode cX6_clearBuffer 1 = .ok (.iconst 0, 1) := by decide +kernel
theorem dX6_clearBuffer_2 : decode cX6_clearBuffer 2 = .ok (.putfield 42, 3) := by decide +kernel
theorem dX6_clearBuffer_5 : decode cX6_clearBuffer 5 = .ok (.aload_n 0, 1) := by decide +kernel
theorem dX6_clearBuffer_6 : decode cX6_clearBuffer 6 = .ok (.getfield 163, 3) := by decide +kernel
theorem dX6_clearBuffer_9 : decode cX6_clearBuffer 9 = .ok (.istore_n 1, 1) := by decide +kernel
theorem dX6_clearBuffer_10 : decode cX6_clearBuffer 10 = .ok (.aload_n 0, 1) := by decide +kernel
theorem dX6_clearBuffer_11 : decode cX6_clearBuffer 11 = .ok (.iconst 0, 1) := by decide +kernel
theorem dX6_clearBuffer_12 : decode cX6_clearBuffer 12 = .ok (.putfield 163, 3) := by decide +kernel
theorem dX6_clearBuffer_15 : decode cX6_clearBuffer 15 = .ok (.iload_n 1, 1) := by decide +kernel
theorem dX6_clearBuffer_16 : decode cX6_clearBuffer 16 = .ok (.ireturn, 1) := by decide +kernel
set_option maxRecDepth 20000 in
theorem ggX6_sign_X6_in : GoodIn wsX6_sign wsX6_in := goodIn_r _ [8] (by decide +kernel) (by decide +kernel)
set_option maxRecDepth 20000 in
theorem gX6_sign_X6_in : GoodIn wsX6_sign (va_wsS RX6 46 yX6_in wsX6_in) := goodIn_app (goodIn_of _ (by decide +kernel)) ggX6_sign_X6_in
theorem dX6_sign_0 : decode cX6_sign 0 = .ok (.aload_n 0, 1) := by decide +kernel
theorem dX6_sign_1 : decode cX6_sign 1 = .ok (.getfield 166, 3) := by decide +kernel
theorem dX6_sign_4 : decode cX6_sign 4 = .ok (.aload_n 0, 1) := by decide +kernel
theorem dX6_sign_5 : decode cX6_sign 5 = .ok (.getfield 163, 3) := by decide +kernel
theorem dX6_sign_8 : decode cX6_sign 8 = .ok (.if_icmp .ge 15, 3) := by decide +kernel
theorem dX6_sign_11 : decode cX6_sign 11 = .ok (.aload_n 0, 1) := by decide +kernel
theorem dX6_sign_12 : decode cX6_sign 12 = .ok (.getfield 19, 3) := by decide +kernel
theorem dX6_sign_15 : decode cX6_sign 15 = .ok (.aload_n 0, 1) := by decide +kernel
theorem dX6_sign_16 : decode cX6_sign 16 = .ok (.getfield 166, 3) := by decide +kernel
theorem dX6_sign_19 : decode cX6_sign 19 = .ok (.iaload, 1) := by decide +kernel
theorem dX6_sign_20 : decode cX6_sign 20 = .ok (.goto 4, 3) := by decide +kernel
theorem dX6_sign_23 : decode cX6_sign 23 = .ok (.iconst 0, 1) := by decide +kernel
theorem dX6_sign_24 : decode cX6_sign 24 = .ok (.istore_n 3, 1) := by decide +kernel
theorem dX6_sign_25 : decode cX6_sign 25 = .ok (.aload_n 0, 1) := by decide +kernel
theorem dX6_sign_26 : decode cX6_sign 26 = .ok (.aload_n 0, 1) := by decide +kernel
theorem dX6_sign_27 : decode cX6_sign 27 = .ok (.getfield 169, 3) := by decide +kernel
theorem dX6_sign_30 : decode cX6_sign 30 = .ok (.ifCond .ne 12, 3) := by decide +kernel
theorem dX6_sign_33 : decode cX6_sign 33 = .ok (.iload_n 3, 1) := by decide +kernel
theorem dX6_sign_34 : decode cX6_sign 34 = .ok (.iload_n 1, 1) := by decide +kernel
theorem dX6_sign_35 : decode cX6_sign 35 = .ok (.iload_n 2, 1) := by decide +kernel
theorem dX6_sign_36 : decode cX6_sign 36 = .ok (.invokestatic 46, 3) := by decide +kernel
theorem dX6_sign_39 : decode cX6_sign 39 = .ok (.ifCond .ne 7, 3) := by decide +kernel
theorem dX6_sign_42 : decode cX6_sign 42 = .ok (.iconst 1, 1) := by decide +kernel
theorem dX6_sign_43 : decode cX6_sign 43 = .ok (.goto 4, 3) := by decide +kernel
theorem dX6_sign_46 : decode cX6_sign 46 = .ok (.iconst 0, 1) := by decide +kernel
theorem dX6_sign_47 : decode cX6_sign 47 = .ok (.putfield 169, 3) := by decide +kernel
theorem dX6_sign_50 : decode cX6_sign 50 = .ok (.aload_n 0, 1) := by decide +kernel
theorem dX6_sign_51 : decode cX6_sign 51 = .ok (.dup, 1) := by decide +kernel
theorem dX6_sign_52 : decode cX6_sign 52 = .ok (.getfield 166, 3) := by decide +kernel
theorem dX6_sign_55 : decode cX6_sign 55 = .ok (.aload_n 0, 1) := by decide +kernel
theorem dX6_sign_56 : decode cX6_sign 56 = .ok (.getfield 169, 3) := by decide +kernel
theorem dX6_sign_59 : decode cX6_sign 59 = .ok (.ifCond .eq 7, 3) := by decide +kernel
theorem dX6_sign_62 : decode cX6_sign 62 = .ok (.iconst 0, 1) := by decide +kernel
theorem dX6_sign_63 : decode cX6_sign 63 = .ok (.goto 4, 3) := by decide +kernel
theorem dX6_sign_66 : decode cX6_sign 66 = .ok (.iconst 1, 1) := by decide +kernel
theorem dX6_sign_67 : decode cX6_sign 67 = .ok (.iadd, 1) := by decide +kernel
theorem dX6_sign_68 : decode cX6_sign 68 = .ok (.putfield 166, 3) := by decide +kernel
theorem dX6_sign_71 : decode cX6_sign 71 = .ok (.iload_n 3, 1) := by decide +kernel
theorem dX6_sign_72 : decode cX6_sign 72 = .ok (.ireturn, 1) := by decide +kernel
set_option maxRecDepth 20000 in
theorem ggX6_number_X6_sign : GoodIn wsX6_number wsX6_sign := goodIn_r _ [9, 2, 3, 4, 1, 10, 11, 8, 12, 13, 14, 15, 16, 17, 18, 19, 20, 21, 22, 23, 24, 25, 26, 27, 28, 29, 30, 31, 32, 33] (by decide +kernel) (by decide +kernel)
set_option maxRecDepth 20000 in
theorem gX6_number_X6_sign : GoodIn wsX6_number (wsV RX6 172 RX6 yX6_sign wsX6_sign) := goodIn_app (goodIn_of _ (by decide +kernel)) ggX6_number_X6_sign
set_option maxRecDepth 20000 in
theorem ggX6_number_X6_in : GoodIn wsX6_number wsX6_in := goodIn_r _ [12] (by decide +kernel) (by decide +kernel)
set_option maxRecDepth 20000 in
theorem gX6_number_X6_in : GoodIn wsX6_number (va_wsS RX6 46 yX6_in wsX6_in) := goodIn_app (goodIn_of _ (by decide +kernel)) ggX6_number_X6_in
theorem dX6_number_0 : decode cX6_number 0 = .ok (.aload_n 0, 1) := by decide +kernel
theorem dX6_number_1 : decode cX6_number 1 = .ok (.bipush 48, 2) := by decide +kernel
theorem dX6_number_3 : decode cX6_number 3 = .ok (.bipush 57, 2) := by decide +kernel
theorem dX6_number_5 : decode cX6_number 5 = .ok (.invokevirtual 172, 3) := by decide +kernel
theorem dX6_number_8 : decode cX6_number 8 = .ok (.bipush 48, 2) := by decide +kernel
theorem dX6_number_10 : decode cX6_number 10 = .ok (.isub, 1) := by decide +kernel
theorem dX6_number_11 : decode cX6_number 11 = .ok (.istore_n 2, 1) := by decide +kernel
theorem dX6_number_12 : decode cX6_number 12 = .ok (.aload_n 0, 1) := by decide +kernel
theorem dX6_number_13 : decode cX6_number 13 = .ok (.getfield 169, 3) := by decide +kernel
theorem dX6_number_16 : decode cX6_number 16 = .ok (.ifCond .ne 62, 3) := by decide +kernel
theorem dX6_number_19 : decode cX6_number 19 = .ok (.iload_n 2, 1) := by decide +kernel
theorem dX6_number_20 : decode cX6_number 20 = .ok (.ifCond .le 58, 3) := by decide +kernel
theorem dX6_number_23 : decode cX6_number 23 = .ok (.aload_n 0, 1) := by decide +kernel
theorem dX6_number_24 : decode cX6_number 24 = .ok (.getfield 166, 3) := by decide +kernel
theorem dX6_number_27 : decode cX6_number 27 = .ok (.aload_n 0, 1) := by decide +kernel
theorem dX6_number_28 : decode cX6_number 28 = .ok (.getfield 163, 3) := by decide +kernel
theorem dX6_number_31 : decode cX6_number 31 = .ok (.if_icmp .ge 47, 3) := by decide +kernel
theorem dX6_number_34 : decode cX6_number 34 = .ok (.aload_n 0, 1) := by decide +kernel
theorem dX6_number_35 : decode cX6_number 35 = .ok (.getfield 19, 3) := by decide +kernel
theorem dX6_number_38 : decode cX6_number 38 = .ok (.aload_n 0, 1) := by decide +kernel
theorem dX6_number_39 : decode cX6_number 39 = .ok (.getfield 166, 3) := by decide +kernel
theorem dX6_number_42 : decode cX6_number 42 = .ok (.iaload, 1) := by decide +kernel
theorem dX6_number_43 : decode cX6_number 43 = .ok (.bipush 48, 2) := by decide +kernel
theorem dX6_number_45 : decode cX6_number 45 = .ok (.bipush 57, 2) := by decide +kernel
theorem dX6_number_47 : decode cX6_number 47 = .ok (.invokestatic 46, 3) := by decide +kernel
theorem dX6_number_50 : decode cX6_number 50 = .ok (.ifCond .eq 28, 3) := by decide +kernel
theorem dX6_number_53 : decode cX6_number 53 = .ok (.bipush 10, 2) := by decide +kernel
theorem dX6_number_55 : decode cX6_number 55 = .ok (.iload_n 2, 1) := by decide +kernel
theorem dX6_number_56 : decode cX6_number 56 = .ok (.imul, 1) := by decide +kernel
theorem dX6_number_57 : decode cX6_number 57 = .ok (.aload_n 0, 1) := by decide +kernel
theorem dX6_number_58 : decode cX6_number 58 = .ok (.getfield 19, 3) := by decide +kernel
theorem dX6_number_61 : decode cX6_number 61 = .ok (.aload_n 0, 1) := by decide +kernel
theorem dX6_number_62 : decode cX6_number 62 = .ok (.getfield 166, 3) := by decide +kernel
theorem dX6_number_65 : decode cX6_number 65 = .ok (.iaload, 1) := by decide +kernel
theorem dX6_number_66 : decode cX6_number 66 = .ok (.iadd, 1) := by decide +kernel
theorem dX6_number_67 : decode cX6_number 67 = .ok (.bipush 48, 2) := by decide +kernel
theorem dX6_number_69 : decode cX6_number 69 = .ok (.isub, 1) := by decide +kernel
theorem dX6_number_70 : decode cX6_number 70 = .ok (.iload_n 1, 1) := by decide +kernel
theorem dX6_number_71 : decode cX6_number 71 = .ok (.if_icmp .gt 7, 3) := by decide +kernel
theorem dX6_number_74 : decode cX6_number 74 = .ok (.iconst 1, 1) := by decide +kernel
theorem dX6_number_75 : decode cX6_number 75 = .ok (.goto 4, 3) := by decide +kernel
theorem dX6_number_78 : decode cX6_number 78 = .ok (.iconst 0, 1) := by decide +kernel
theorem dX6_number_79 : decode cX6_number 79 = .ok (.istore_n 3, 1) := by decide +kernel
theorem dX6_number_80 : decode cX6_number 80 = .ok (.iload_n 3, 1) := by decide +kernel
theorem dX6_number_81 : decode cX6_number 81 = .ok (.ifCond .eq 22, 3) := by decide +kernel
theorem dX6_number_84 : decode cX6_number 84 = .ok (.bipush 10, 2) := by decide +kernel
theorem dX6_number_86 : decode cX6_number 86 = .ok (.iload_n 2, 1) := by decide +kernel
theorem dX6_number_87 : decode cX6_number 87 = .ok (.imul, 1) := by decide +kernel
theorem dX6_number_88 : decode cX6_number 88 = .ok (.aload_n 0, 1) := by decide +kernel
theorem dX6_number_89 : decode cX6_number 89 = .ok (.bipush 48, 2) := by decide +kernel
theorem dX6_number_91 : decode cX6_number 91 = .ok (.bipush 57, 2) := by decide +kernel
theorem dX6_number_93 : decode cX6_number 93 = .ok (.invokevirtual 172, 3) := by decide +kernel
theorem dX6_number_96 : decode cX6_number 96 = .ok (.iadd, 1) := by decide +kernel
theorem dX6_number_97 : decode cX6_number 97 = .ok (.bipush 48, 2) := by decide +kernel
theorem dX6_number_99 : decode cX6_number 99 = .ok (.isub, 1) := by decide +kernel
theorem dX6_number_100 : decode cX6_number 100 = .ok (.goto 4, 3) := by decide +kernel
theorem dX6_number_103 : decode cX6_number 103 = .ok (.iload_n 2, 1) := by decide +kernel
theorem dX6_number_104 : decode cX6_number 104 = .ok (.ireturn, 1) := by decide +kernel
set_option maxRecDepth 20000 in
theorem ggX6_ringTeeth_X6_in : GoodIn wsX6_ringTeeth wsX6_in := goodIn_r _ [8] (by decide +kernel) (by decide +kernel)
set_option maxRecDepth 20000 in
theorem gX6_ringTeeth_X6_in : GoodIn wsX6_ringTeeth (va_wsS RX6 46 yX6_in wsX6_in) := goodIn_app (goodIn_of _ (by decide +kernel)) ggX6_ringTeeth_X6_in
set_option maxRecDepth 20000 in
theorem ggX6_ringTeeth_X6_sign : GoodIn wsX6_ringTeeth wsX6_sign := goodIn_r _ [12, 1, 2, 3, 4, 5, 6, 7, 8, 13, 14, 15, 16, 17, 18, 19, 20, 21, 22, 23, 24, 25, 26, 27, 28, 29, 30, 31, 32, 33] (by decide +kernel) (by decide +kernel)
set_option maxRecDepth 20000 in
theorem gX6_ringTeeth_X6_sign : GoodIn wsX6_ringTeeth (wsV RX6 172 RX6 yX6_sign wsX6_sign) := goodIn_app (goodIn_of _ (by decide +kernel)) ggX6_ringTeeth_X6_sign
theorem dX6_ringTeeth_0 : decode cX6_ringTeeth 0 = .ok (.aload_n 0, 1) := by decide +kernel
theorem dX6_ringTeeth_1 : decode cX6_ringTeeth 1 = .ok (.getfield 166, 3) := by decide +kernel
theorem dX6_ringTeeth_4 : decode cX6_ringTeeth 4 = .ok (.aload_n 0, 1) := by decide +kernel
theorem dX6_ringTeeth_5 : decode cX6_ringTeeth 5 = .ok (.getfield 163, 3) := by decide +kernel
theorem dX6_ringTeeth_8 : decode cX6_ringTeeth 8 = .ok (.if_icmp .ge 15, 3) := by decide +kernel
theorem dX6_ringTeeth_11 : decode cX6_ringTeeth 11 = .ok (.aload_n 0, 1) := by decide +kernel
theorem dX6_ringTeeth_12 : decode cX6_ringTeeth 12 = .ok (.getfield 19, 3) := by decide +kernel
theorem dX6_ringTeeth_15 : decode cX6_ringTeeth 15 = .ok (.aload_n 0, 1) := by decide +kernel
theorem dX6_ringTeeth_16 : decode cX6_ringTeeth 16 = .ok (.getfield 166, 3) := by decide +kernel
theorem dX6_ringTeeth_19 : decode cX6_ringTeeth 19 = .ok (.iaload, 1) := by decide +kernel
theorem dX6_ringTeeth_20 : decode cX6_ringTeeth 20 = .ok (.goto 4, 3) := by decide +kernel
theorem dX6_ringTeeth_23 : decode cX6_ringTeeth 23 = .ok (.iconst 0, 1) := by decide +kernel
theorem dX6_ringTeeth_24 : decode cX6_ringTeeth 24 = .ok (.istore_n 1, 1) := by decide +kernel
theorem dX6_ringTeeth_25 : decode cX6_ringTeeth 25 = .ok (.aload_n 0, 1) := by decide +kernel
theorem dX6_ringTeeth_26 : decode cX6_ringTeeth 26 = .ok (.aload_n 0, 1) := by decide +kernel
theorem dX6_ringTeeth_27 : decode cX6_ringTeeth 27 = .ok (.getfield 169, 3) := by decide +kernel
theorem dX6_ringTeeth_30 : decode cX6_ringTeeth 30 = .ok (.ifCond .ne 25, 3) := by decide +kernel
theorem dX6_ringTeeth_33 : decode cX6_ringTeeth 33 = .ok (.iload_n 1, 1) := by decide +kernel
theorem dX6_ringTeeth_34 : decode cX6_ringTeeth 34 = .ok (.bipush 49, 2) := by decide +kernel
theorem dX6_ringTeeth_36 : decode cX6_ringTeeth 36 = .ok (.bipush 52, 2) := by decide +kernel
theorem dX6_ringTeeth_38 : decode cX6_ringTeeth 38 = .ok (.invokestatic 46, 3) := by decide +kernel
theorem dX6_ringTeeth_41 : decode cX6_ringTeeth 41 = .ok (.ifCond .ne 18, 3) := by decide +kernel
theorem dX6_ringTeeth_44 : decode cX6_ringTeeth 44 = .ok (.iload_n 1, 1) := by decide +kernel
theorem dX6_ringTeeth_45 : decode cX6_ringTeeth 45 = .ok (.bipush 54, 2) := by decide +kernel
theorem dX6_ringTeeth_47 : decode cX6_ringTeeth 47 = .ok (.bipush 57, 2) := by decide +kernel
theorem dX6_ringTeeth_49 : decode cX6_ringTeeth 49 = .ok (.invokestatic 46, 3) := by decide +kernel
theorem dX6_ringTeeth_52 : decode cX6_ringTeeth 52 = .ok (.ifCond .ne 7, 3) := by decide +kernel
theorem dX6_ringTeeth_55 : decode cX6_ringTeeth 55 = .ok (.iconst 1, 1) := by decide +kernel
theorem dX6_ringTeeth_56 : decode cX6_ringTeeth 56 = .ok (.goto 4, 3) := by decide +kernel
theorem dX6_ringTeeth_59 : decode cX6_ringTeeth 59 = .ok (.iconst 0, 1) := by decide +kernel
theorem dX6_ringTeeth_60 : decode cX6_ringTeeth 60 = .ok (.putfield 169, 3) := by decide +kernel
theorem dX6_ringTeeth_63 : decode cX6_ringTeeth 63 = .ok (.aload_n 0, 1) := by decide +kernel
theorem dX6_ringTeeth_64 : decode cX6_ringTeeth 64 = .ok (.dup, 1) := by decide +kernel
theorem dX6_ringTeeth_65 : decode cX6_ringTeeth 65 = .ok (.getfield 166, 3) := by decide +kernel
theorem dX6_ringTeeth_68 : decode cX6_ringTeeth 68 = .ok (.aload_n 0, 1) := by decide +kernel
theorem dX6_ringTeeth_69 : decode cX6_ringTeeth 69 = .ok (.getfield 169, 3) := by decide +kernel
theorem dX6_ringTeeth_72 : decode cX6_ringTeeth 72 = .ok (.ifCond .eq 7, 3) := by decide +kernel
theorem dX6_ringTeeth_75 : decode cX6_ringTeeth 75 = .ok (.iconst 0, 1) := by decide +kernel
theorem dX6_ringTeeth_76 : decode cX6_ringTeeth 76 = .ok (.goto 4, 3) := by decide +kernel
theorem dX6_ringTeeth_79 : decode cX6_ringTeeth 79 = .ok (.iconst 1, 1) := by decide +kernel
theorem dX6_ringTeeth_80 : decode cX6_ringTeeth 80 = .ok (.iadd, 1) := by decide +kernel
theorem dX6_ringTeeth_81 : decode cX6_ringTeeth 81 = .ok (.putfield 166, 3) := by decide +kernel
theorem dX6_ringTeeth_84 : decode cX6_ringTeeth 84 = .ok (.iload_n 1, 1) := by decide +kernel
theorem dX6_ringTeeth_85 : decode cX6_ringTeeth 85 = .ok (.bipush 48, 2) := by decide +kernel
theorem dX6_ringTeeth_87 : decode cX6_ringTeeth 87 = .ok (.isub, 1) := by decide +kernel
theorem dX6_ringTeeth_88 : decode cX6_ringTeeth 88 = .ok (.istore_n 2, 1) := by decide +kernel
theorem dX6_ringTeeth_89 : decode cX6_ringTeeth 89 = .ok (.iload_n 2, 1) := by decide +kernel
theorem dX6_ringTeeth_90 : decode cX6_ringTeeth 90 = .ok (.iconst 4, 1) := by decide +kernel
theorem dX6_ringTeeth_91 : decode cX6_ringTeeth 91 = .ok (.if_icmp .gt 10, 3) := by decide +kernel
theorem dX6_ringTeeth_94 : decode cX6_ringTeeth 94 = .ok (.aload_n 0, 1) := by decide +kernel
theorem dX6_ringTeeth_95 : decode cX6_ringTeeth 95 = .ok (.getfield 169, 3) := by decide +kernel
theorem dX6_ringTeeth_98 : decode cX6_ringTeeth 98 = .ok (.ifCond .eq 7, 3) := by decide +kernel
theorem dX6_ringTeeth_101 : decode cX6_ringTeeth 101 = .ok (.iload_n 2, 1) := by decide +kernel
theorem dX6_ringTeeth_102 : decode cX6_ringTeeth 102 = .ok (.goto 29, 3) := by decide +kernel
theorem dX6_ringTeeth_105 : decode cX6_ringTeeth 105 = .ok (.bipush 10, 2) := by decide +kernel
theorem dX6_ringTeeth_107 : decode cX6_ringTeeth 107 = .ok (.iload_n 2, 1) := by decide +kernel
theorem dX6_ringTeeth_108 : decode cX6_ringTeeth 108 = .ok (.imul, 1) := by decide +kernel
theorem dX6_ringTeeth_109 : decode cX6_ringTeeth 109 = .ok (.aload_n 0, 1) := by decide +kernel
theorem dX6_ringTeeth_110 : decode cX6_ringTeeth 110 = .ok (.bipush 48, 2) := by decide +kernel
theorem dX6_ringTeeth_112 : decode cX6_ringTeeth 112 = .ok (.iload_n 2, 1) := by decide +kernel
theorem dX6_ringTeeth_113 : decode cX6_ringTeeth 113 = .ok (.iconst 4, 1) := by decide +kernel
theorem dX6_ringTeeth_114 : decode cX6_ringTeeth 114 = .ok (.if_icmp .ne 8, 3) := by decide +kernel
theorem dX6_ringTeeth_117 : decode cX6_ringTeeth 117 = .ok (.bipush 48, 2) := by decide +kernel
theorem dX6_ringTeeth_119 : decode cX6_ringTeeth 119 = .ok (.goto 5, 3) := by decide +kernel
theorem dX6_ringTeeth_122 : decode cX6_ringTeeth 122 = .ok (.bipush 57, 2) := by decide +kernel
theorem dX6_ringTeeth_124 : decode cX6_ringTeeth 124 = .ok (.invokevirtual 172, 3) := by decide +kernel
theorem dX6_ringTeeth_127 : decode cX6_ringTeeth 127 = .ok (.iadd, 1) := by decide +kernel
theorem dX6_ringTeeth_128 : decode cX6_ringTeeth 128 = .ok (.bipush 48, 2) := by decide +kernel
theorem dX6_ringTeeth_130 : decode cX6_ringTeeth 130 = .ok (.isub, 1) := by decide +kernel
theorem dX6_ringTeeth_131 : decode cX6_ringTeeth 131 = .ok (.ireturn, 1) := by decide +kernel
set_option maxRecDepth 20000 in
theorem ggX6_order_X6_number : GoodIn wsX6_order wsX6_number := goodIn_r _ [10, 4, 1, 2, 3, 11, 12, 13, 9, 14, 15, 16, 17, 22, 23, 24, 25, 26, 27, 28, 29, 30, 31, 32, 33, 34, 35, 36, 37, 38, 39, 40, 41, 42] (by decide +kernel) (by decide +kernel)
set_option maxRecDepth 20000 in
theorem gX6_order_X6_number : GoodIn wsX6_order (wsV RX6 175 RX6 yX6_number wsX6_number) := goodIn_app (goodIn_of _ (by decide +kernel)) ggX6_order_X6_number
set_option maxRecDepth 20000 in
theorem ggX6_order_X6_sign : GoodIn wsX6_order wsX6_sign := goodIn_r _ [14, 1, 2, 3, 4, 15, 16, 9, 17, 22, 23, 24, 25, 26, 27, 28, 29, 30, 31, 32, 33, 34, 35, 36, 37, 38, 39, 40, 41, 42] (by decide +kernel) (by decide +kernel)
set_option maxRecDepth 20000 in
theorem gX6_order_X6_sign : GoodIn wsX6_order (wsV RX6 172 RX6 yX6_sign wsX6_sign) := goodIn_app (goodIn_of _ (by decide +kernel)) ggX6_order_X6_sign
set_option maxRecDepth 20000 in
theorem ggX6_order_X6_ringTeeth : GoodIn wsX6_order wsX6_ringTeeth := goodIn_r _ [21, 1, 2, 3, 4, 15, 16, 9, 17, 11, 12, 13, 14, 22, 23, 24, 25, 26, 27, 28, 29, 30, 31, 32, 33, 34, 35, 36, 37, 38, 39, 40, 41, 42] (by decide +kernel) (by decide +kernel)
set_option maxRecDepth 20000 in
theorem gX6_order_X6_ringTeeth : GoodIn wsX6_order (wsV RX6 178 RX6 yX6_ringTeeth wsX6_ringTeeth) := goodIn_app (goodIn_of _ (by decide +kernel)) ggX6_order_X6_ringTeeth
theorem dX6_order_0 : decode cX6_order 0 = .ok (.aload_n 0, 1) := by decide +kernel
theorem dX6_order_1 : decode cX6_order 1 = .ok (.getfield 166, 3) := by decide +kernel
theorem dX6_order_4 : decode cX6_order 4 = .ok (.aload_n 0, 1) := by decide +kernel
theorem dX6_order_5 : decode cX6_order 5 = .ok (.getfield 163, 3) := by decide +kernel
theorem dX6_order_8 : decode cX6_order 8 = .ok (.if_icmp .ge 15, 3) := by decide +kernel
theorem dX6_order_11 : decode cX6_order 11 = .ok (.aload_n 0, 1) := by decide +kernel
theorem dX6_order_12 : decode cX6_order 12 = .ok (.getfield 19, 3) := by decide +kernel
theorem dX6_order_15 : decode cX6_order 15 = .ok (.aload_n 0, 1) := by decide +kernel
theorem dX6_order_16 : decode cX6_order 16 = .ok (.getfield 166, 3) := by decide +kernel
theorem dX6_order_19 : decode cX6_order 19 = .ok (.iaload, 1) := by decide +kernel
theorem dX6_order_20 : decode cX6_order 20 = .ok (.goto 4, 3) := by decide +kernel
theorem dX6_order_23 : decode cX6_order 23 = .ok (.iconst 0, 1) := by decide +kernel
theorem dX6_order_24 : decode cX6_order 24 = .ok (.istore_n 1, 1) := by decide +kernel
theorem dX6_order_25 : decode cX6_order 25 = .ok (.aload_n 0, 1) := by decide +kernel
theorem dX6_order_26 : decode cX6_order 26 = .ok (.aload_n 0, 1) := by decide +kernel
theorem dX6_order_27 : decode cX6_order 27 = .ok (.getfield 169, 3) := by decide +kernel
theorem dX6_order_30 : decode cX6_order 30 = .ok (.ifCond .ne 27, 3) := by decide +kernel
theorem dX6_order_33 : decode cX6_order 33 = .ok (.iload_n 1, 1) := by decide +kernel
theorem dX6_order_34 : decode cX6_order 34 = .ok (.bipush 112, 2) := by decide +kernel
theorem dX6_order_36 : decode cX6_order 36 = .ok (.if_icmp .eq 25, 3) := by decide +kernel
theorem dX6_order_39 : decode cX6_order 39 = .ok (.iload_n 1, 1) := by decide +kernel
theorem dX6_order_40 : decode cX6_order 40 = .ok (.bipush 103, 2) := by decide +kernel
theorem dX6_order_42 : decode cX6_order 42 = .ok (.if_icmp .eq 19, 3) := by decide +kernel
theorem dX6_order_45 : decode cX6_order 45 = .ok (.iload_n 1, 1) := by decide +kernel
theorem dX6_order_46 : decode cX6_order 46 = .ok (.bipush 114, 2) := by decide +kernel
theorem dX6_order_48 : decode cX6_order 48 = .ok (.if_icmp .eq 13, 3) := by decide +kernel
theorem dX6_order_51 : decode cX6_order 51 = .ok (.iload_n 1, 1) := by decide +kernel
theorem dX6_order_52 : decode cX6_order 52 = .ok (.bipush 100, 2) := by decide +kernel
theorem dX6_order_54 : decode cX6_order 54 = .ok (.if_icmp .eq 7, 3) := by decide +kernel
theorem dX6_order_57 : decode cX6_order 57 = .ok (.iconst 1, 1) := by decide +kernel
theorem dX6_order_58 : decode cX6_order 58 = .ok (.goto 4, 3) := by decide +kernel
theorem dX6_order_61 : decode cX6_order 61 = .ok (.iconst 0, 1) := by decide +kernel
theorem dX6_order_62 : decode cX6_order 62 = .ok (.putfield 169, 3) := by decide +kernel
theorem dX6_order_65 : decode cX6_order 65 = .ok (.aload_n 0, 1) := by decide +kernel
theorem dX6_order_66 : decode cX6_order 66 = .ok (.dup, 1) := by decide +kernel
theorem dX6_order_67 : decode cX6_order 67 = .ok (.getfield 166, 3) := by decide +kernel
theorem dX6_order_70 : decode cX6_order 70 = .ok (.aload_n 0, 1) := by decide +kernel
theorem dX6_order_71 : decode cX6_order 71 = .ok (.getfield 169, 3) := by decide +kernel
theorem dX6_order_74 : decode cX6_order 74 = .ok (.ifCond .eq 7, 3) := by decide +kernel
theorem dX6_order_77 : decode cX6_order 77 = .ok (.iconst 0, 1) := by decide +kernel
theorem dX6_order_78 : decode cX6_order 78 = .ok (.goto 4, 3) := by decide +kernel
theorem dX6_order_81 : decode cX6_order 81 = .ok (.iconst 1, 1) := by decide +kernel
theorem dX6_order_82 : decode cX6_order 82 = .ok (.iadd, 1) := by decide +kernel
theorem dX6_order_83 : decode cX6_order 83 = .ok (.putfield 166, 3) := by decide +kernel
theorem dX6_order_86 : decode cX6_order 86 = .ok (.aload_n 0, 1) := by decide +kernel
theorem dX6_order_87 : decode cX6_order 87 = .ok (.getfield 33, 3) := by decide +kernel
theorem dX6_order_90 : decode cX6_order 90 = .ok (.iconst 0, 1) := by decide +kernel
theorem dX6_order_91 : decode cX6_order 91 = .ok (.iload_n 1, 1) := by decide +kernel
theorem dX6_order_92 : decode cX6_order 92 = .ok (.iastore, 1) := by decide +kernel
theorem dX6_order_93 : decode cX6_order 93 = .ok (.aload_n 0, 1) := by decide +kernel
theorem dX6_order_94 : decode cX6_order 94 = .ok (.getfield 169, 3) := by decide +kernel
theorem dX6_order_97 : decode cX6_order 97 = .ok (.ifCond .eq 4, 3) := by decide +kernel
theorem dX6_order_100 : decode cX6_order 100 = .ok (.return_, 1) := by decide +kernel
theorem dX6_order_101 : decode cX6_order 101 = .ok (.aload_n 0, 1) := by decide +kernel
theorem dX6_order_102 : decode cX6_order 102 = .ok (.getfield 33, 3) := by decide +kernel
theorem dX6_order_105 : decode cX6_order 105 = .ok (.iconst 1, 1) := by decide +kernel
theorem dX6_order_106 : decode cX6_order 106 = .ok (.iload_n 1, 1) := by decide +kernel
theorem dX6_order_107 : decode cX6_order 107 = .ok (.bipush 112, 2) := by decide +kernel
theorem dX6_order_109 : decode cX6_order 109 = .ok (.if_icmp .ne 12, 3) := by decide +kernel
theorem dX6_order_112 : decode cX6_order 112 = .ok (.aload_n 0, 1) := by decide +kernel
theorem dX6_order_113 : decode cX6_order 113 = .ok (.bipush 60, 2) := by decide +kernel
theorem dX6_order_115 : decode cX6_order 115 = .ok (.invokevirtual 175, 3) := by decide +kernel
theorem dX6_order_118 : decode cX6_order 118 = .ok (.goto 14, 3) := by decide +kernel
theorem dX6_order_121 : decode cX6_order 121 = .ok (.aload_n 0, 1) := by decide +kernel
theorem dX6_order_122 : decode cX6_order 122 = .ok (.bipush 48, 2) := by decide +kernel
theorem dX6_order_124 : decode cX6_order 124 = .ok (.bipush 56, 2) := by decide +kernel
theorem dX6_order_126 : decode cX6_order 126 = .ok (.invokevirtual 172, 3) := by decide +kernel
theorem dX6_order_129 : decode cX6_order 129 = .ok (.bipush 48, 2) := by decide +kernel
theorem dX6_order_131 : decode cX6_order 131 = .ok (.isub, 1) := by decide +kernel
theorem dX6_order_132 : decode cX6_order 132 = .ok (.iastore, 1) := by decide +kernel
theorem dX6_order_133 : decode cX6_order 133 = .ok (.iload_n 1, 1) := by decide +kernel
theorem dX6_order_134 : decode cX6_order 134 = .ok (.bipush 112, 2) := by decide +kernel
theorem dX6_order_136 : decode cX6_order 136 = .ok (.if_icmp .ne 14, 3) := by decide +kernel
theorem dX6_order_139 : decode cX6_order 139 = .ok (.aload_n 0, 1) := by decide +kernel
theorem dX6_order_140 : decode cX6_order 140 = .ok (.bipush 44, 2) := by decide +kernel
theorem dX6_order_142 : decode cX6_order 142 = .ok (.bipush 44, 2) := by decide +kernel
theorem dX6_order_144 : decode cX6_order 144 = .ok (.invokevirtual 172, 3) := by decide +kernel
theorem dX6_order_147 : decode cX6_order 147 = .ok (.goto 21, 3) := by decide +kernel
theorem dX6_order_150 : decode cX6_order 150 = .ok (.iload_n 1, 1) := by decide +kernel
theorem dX6_order_151 : decode cX6_order 151 = .ok (.bipush 100, 2) := by decide +kernel
theorem dX6_order_153 : decode cX6_order 153 = .ok (.if_icmp .ne 7, 3) := by decide +kernel
theorem dX6_order_156 : decode cX6_order 156 = .ok (.iconst 0, 1) := by decide +kernel
theorem dX6_order_157 : decode cX6_order 157 = .ok (.goto 11, 3) := by decide +kernel
theorem dX6_order_160 : decode cX6_order 160 = .ok (.aload_n 0, 1) := by decide +kernel
theorem dX6_order_161 : decode cX6_order 161 = .ok (.bipush 46, 2) := by decide +kernel
theorem dX6_order_163 : decode cX6_order 163 = .ok (.bipush 46, 2) := by decide +kernel
theorem dX6_order_165 : decode cX6_order 165 = .ok (.invokevirtual 172, 3) := by decide +kernel
theorem dX6_order_168 : decode cX6_order 168 = .ok (.istore_n 2, 1) := by decide +kernel
theorem dX6_order_169 : decode cX6_order 169 = .ok (.aload_n 0, 1) := by decide +kernel
theorem dX6_order_170 : decode cX6_order 170 = .ok (.getfield 33, 3) := by decide +kernel
theorem dX6_order_173 : decode cX6_order 173 = .ok (.iconst 2, 1) := by decide +kernel
theorem dX6_order_174 : decode cX6_order 174 = .ok (.aload_n 0, 1) := by decide +kernel
theorem dX6_order_175 : decode cX6_order 175 = .ok (.getfield 169, 3) := by decide +kernel
theorem dX6_order_178 : decode cX6_order 178 = .ok (.ifCond .ne 9, 3) := by decide +kernel
theorem dX6_order_181 : decode cX6_order 181 = .ok (.iload_n 1, 1) := by decide +kernel
theorem dX6_order_182 : decode cX6_order 182 = .ok (.bipush 100, 2) := by decide +kernel
theorem dX6_order_184 : decode cX6_order 184 = .ok (.if_icmp .ne 7, 3) := by decide +kernel
theorem dX6_order_187 : decode cX6_order 187 = .ok (.iconst 0, 1) := by decide +kernel
theorem dX6_order_188 : decode cX6_order 188 = .ok (.goto 29, 3) := by decide +kernel
theorem dX6_order_191 : decode cX6_order 191 = .ok (.iload_n 1, 1) := by decide +kernel
theorem dX6_order_192 : decode cX6_order 192 = .ok (.bipush 112, 2) := by decide +kernel
theorem dX6_order_194 : decode cX6_order 194 = .ok (.if_icmp .ne 12, 3) := by decide +kernel
theorem dX6_order_197 : decode cX6_order 197 = .ok (.aload_n 0, 1) := by decide +kernel
theorem dX6_order_198 : decode cX6_order 198 = .ok (.bipush 60, 2) := by decide +kernel
theorem dX6_order_200 : decode cX6_order 200 = .ok (.invokevirtual 175, 3) := by decide +kernel
theorem dX6_order_203 : decode cX6_order 203 = .ok (.goto 14, 3) := by decide +kernel
theorem dX6_order_206 : decode cX6_order 206 = .ok (.aload_n 0, 1) := by decide +kernel
theorem dX6_order_207 : decode cX6_order 207 = .ok (.bipush 48, 2) := by decide +kernel
theorem dX6_order_209 : decode cX6_order 209 = .ok (.bipush 49, 2) := by decide +kernel
theorem dX6_order_211 : decode cX6_order 211 = .ok (.invokevirtual 172, 3) := by decide +kernel
theorem dX6_order_214 : decode cX6_order 214 = .ok (.bipush 48, 2) := by decide +kernel
theorem dX6_order_216 : decode cX6_order 216 = .ok (.isub, 1) := by decide +kernel
theorem dX6_order_217 : decode cX6_order 217 = .ok (.iastore, 1) := by decide +kernel
theorem dX6_order_218 : decode cX6_order 218 = .ok (.iload_n 1, 1) := by decide +kernel
theorem dX6_order_219 : decode cX6_order 219 = .ok (.bipush 103, 2) := by decide +kernel
theorem dX6_order_221 : decode cX6_order 221 = .ok (.if_icmp .eq 9, 3) := by decide +kernel
theorem dX6_order_224 : decode cX6_order 224 = .ok (.iload_n 1, 1) := by decide +kernel
theorem dX6_order_225 : decode cX6_order 225 = .ok (.bipush 114, 2) := by decide +kernel
theorem dX6_order_227 : decode cX6_order 227 = .ok (.if_icmp .ne 7, 3) := by decide +kernel
theorem dX6_order_230 : decode cX6_order 230 = .ok (.iconst 1, 1) := by decide +kernel
theorem dX6_order_231 : decode cX6_order 231 = .ok (.goto 4, 3) := by decide +kernel
theorem dX6_order_234 : decode cX6_order 234 = .ok (.iconst 0, 1) := by decide +kernel
theorem dX6_order_235 : decode cX6_order 235 = .ok (.istore_n 3, 1) := by decide +kernel
theorem dX6_order_236 : decode cX6_order 236 = .ok (.iload_n 3, 1) := by decide +kernel
theorem dX6_order_237 : decode cX6_order 237 = .ok (.ifCond .eq 14, 3) := by decide +kernel
theorem dX6_order_240 : decode cX6_order 240 = .ok (.aload_n 0, 1) := by decide +kernel
theorem dX6_order_241 : decode cX6_order 241 = .ok (.bipush 61, 2) := by decide +kernel
theorem dX6_order_243 : decode cX6_order 243 = .ok (.bipush 61, 2) := by decide +kernel
theorem dX6_order_245 : decode cX6_order 245 = .ok (.invokevirtual 172, 3) := by decide +kernel
theorem dX6_order_248 : decode cX6_order 248 = .ok (.goto 4, 3) := by decide +kernel
theorem dX6_order_251 : decode cX6_order 251 = .ok (.iconst 0, 1) := by decide +kernel
theorem dX6_order_252 : decode cX6_order 252 = .ok (.istore_n 2, 1) := by decide +kernel
theorem dX6_order_253 : decode cX6_order 253 = .ok (.aload_n 0, 1) := by decide +kernel
theorem dX6_order_254 : decode cX6_order 254 = .ok (.getfield 33, 3) := by decide +kernel
theorem dX6_order_257 : decode cX6_order 257 = .ok (.iconst 3, 1) := by decide +kernel
theorem dX6_order_258 : decode cX6_order 258 = .ok (.aload_n 0, 1) := by decide +kernel
theorem dX6_order_259 : decode cX6_order 259 = .ok (.getfield 169, 3) := by decide +kernel
theorem dX6_order_262 : decode cX6_order 262 = .ok (.ifCond .ne 7, 3) := by decide +kernel
theorem dX6_order_265 : decode cX6_order 265 = .ok (.iload_n 3, 1) := by decide +kernel
theorem dX6_order_266 : decode cX6_order 266 = .ok (.ifCond .ne 7, 3) := by decide +kernel
theorem dX6_order_269 : decode cX6_order 269 = .ok (.iconst 0, 1) := by decide +kernel
theorem dX6_order_270 : decode cX6_order 270 = .ok (.goto 22, 3) := by decide +kernel
theorem dX6_order_273 : decode cX6_order 273 = .ok (.iload_n 1, 1) := by decide +kernel
theorem dX6_order_274 : decode cX6_order 274 = .ok (.bipush 103, 2) := by decide +kernel
theorem dX6_order_276 : decode cX6_order 276 = .ok (.if_icmp .ne 12, 3) := by decide +kernel
theorem dX6_order_279 : decode cX6_order 279 = .ok (.aload_n 0, 1) := by decide +kernel
theorem dX6_order_280 : decode cX6_order 280 = .ok (.bipush 20, 2) := by decide +kernel
theorem dX6_order_282 : decode cX6_order 282 = .ok (.invokevirtual 175, 3) := by decide +kernel
theorem dX6_order_285 : decode cX6_order 285 = .ok (.goto 7, 3) := by decide +kernel
theorem dX6_order_288 : decode cX6_order 288 = .ok (.aload_n 0, 1) := by decide +kernel
theorem dX6_order_289 : decode cX6_order 289 = .ok (.invokevirtual 178, 3) := by decide +kernel
theorem dX6_order_292 : decode cX6_order 292 = .ok (.iastore, 1) := by decide +kernel
theorem dX6_order_293 : decode cX6_order 293 = .ok (.return_, 1) := by decide +kernel
set_option maxRecDepth 20000 in
theorem ggX6_does_X6_pegFault : GoodIn wsX6_does wsX6_pegFault := goodIn_r _ [6, 7, 8, 9, 5, 10, 11, 12, 13, 14, 15, 16, 17, 77, 78, 79, 80, 81, 82, 83, 84, 85, 86, 87, 88, 89, 90, 91, 92, 93, 94, 95, 96, 97] (by decide +kernel) (by decide +kernel)
set_option maxRecDepth 20000 in
theorem gX6_does_X6_pegFault : GoodIn wsX6_does (wsV RX6 108 RX6 yX6_pegFault wsX6_pegFault) := goodIn_app (goodIn_of _ (by decide +kernel)) ggX6_does_X6_pegFault
set_option maxRecDepth 20000 in
theorem ggX6_does_X6_isPeg : GoodIn wsX6_does wsX6_isPeg := goodIn_r _ [21, 7, 11, 12, 5, 13, 77, 78, 79, 80, 81, 82, 83, 84, 85, 86, 87, 88, 89, 90, 91, 92, 93, 94, 95, 96, 97] (by decide +kernel) (by decide +kernel)
set_option maxRecDepth 20000 in
theorem gX6_does_X6_isPeg : GoodIn wsX6_does (wsV RX6 121 RX6 yX6_isPeg wsX6_isPeg) := goodIn_app (goodIn_of _ (by decide +kernel)) ggX6_does_X6_isPeg
set_option maxRecDepth 20000 in
theorem ggX6_does_X6_putFault : GoodIn wsX6_does wsX6_putFault := goodIn_r _ [25, 18, 19, 20, 5, 21, 7, 11, 12, 13, 26, 27, 28, 29, 30, 31, 32, 33, 34, 35, 36, 37, 38, 39, 40, 41, 42, 43, 44, 45, 46, 47, 48, 49, 50, 51, 52, 77, 78, 79, 80, 81, 82, 83, 84, 85, 86, 87, 88, 89, 90, 91, 92, 93, 94, 95, 96, 97] (by decide +kernel) (by decide +kernel)
set_option maxRecDepth 20000 in
theorem gX6_does_X6_putFault : GoodIn wsX6_does (wsV RX6 130 RX6 yX6_putFault wsX6_putFault) := goodIn_app (goodIn_of _ (by decide +kernel)) ggX6_does_X6_putFault
set_option maxRecDepth 20000 in
theorem ggX6_does_X6_pegs : GoodIn wsX6_does wsX6_pegs := goodIn_r _ [56, 7, 34, 35, 36, 5, 37, 77, 78, 79, 80, 81, 82, 83, 84, 85, 86, 87, 88, 89, 90, 91, 92, 93, 94, 95, 96, 97] (by decide +kernel) (by decide +kernel)
set_option maxRecDepth 20000 in
theorem gX6_does_X6_pegs : GoodIn wsX6_does (wsV RX6 118 RX6 yX6_pegs wsX6_pegs) := goodIn_app (goodIn_of _ (by decide +kernel)) ggX6_does_X6_pegs
set_option maxRecDepth 20000 in
theorem ggX6_does_X6_drives : GoodIn wsX6_does wsX6_drives := goodIn_r _ [60, 7, 77, 78, 79, 80, 81, 82, 83, 84, 85, 86, 87, 88, 89, 90, 91, 92, 93, 94, 95, 96, 97] (by decide +kernel) (by decide +kernel)
set_option maxRecDepth 20000 in
theorem gX6_does_X6_drives : GoodIn wsX6_does (wsV RX6 153 RX6 yX6_drives wsX6_drives) := goodIn_app (goodIn_of _ (by decide +kernel)) ggX6_does_X6_drives
set_option maxRecDepth 20000 in
theorem ggX6_does_X6_puts : GoodIn wsX6_does wsX6_puts := goodIn_r _ [64, 34, 35, 36, 5, 37, 7, 65, 66, 67, 68, 69, 70, 71, 72, 73, 74, 75, 76, 42, 43, 44, 45, 26, 27, 28, 29, 46, 47, 48, 49, 30, 31, 32, 33, 50, 51, 52, 77, 78, 79, 80, 81, 82, 83, 84, 85, 86, 87, 88, 89, 90, 91, 92, 93, 94, 95, 96, 97] (by decide +kernel) (by decide +kernel)
set_option maxRecDepth 20000 in
theorem gX6_does_X6_puts : GoodIn wsX6_does (wsV RX6 134 RX6 yX6_puts wsX6_puts) := goodIn_app (goodIn_of _ (by decide +kernel)) ggX6_does_X6_puts
theorem dX6_does_0 : decode cX6_does 0 = .ok (.aload_n 0, 1) := by decide +kernel
theorem dX6_does_1 : decode cX6_does 1 = .ok (.getfield 33, 3) := by decide +kernel
theorem dX6_does_4 : decode cX6_does 4 = .ok (.iconst 0, 1) := by decide +kernel
theorem dX6_does_5 : decode cX6_does 5 = .ok (.iaload, 1) := by decide +kernel
theorem dX6_does_6 : decode cX6_does 6 = .ok (.istore_n 1, 1) := by decide +kernel
theorem dX6_does_7 : decode cX6_does 7 = .ok (.aload_n 0, 1) := by decide +kernel
theorem dX6_does_8 : decode cX6_does 8 = .ok (.getfield 33, 3) := by decide +kernel
theorem dX6_does_11 : decode cX6_does 11 = .ok (.iconst 1, 1) := by decide +kernel
theorem dX6_does_12 : decode cX6_does 12 = .ok (.iaload, 1) := by decide +kernel
theorem dX6_does_13 : decode cX6_does 13 = .ok (.istore_n 2, 1) := by decide +kernel
theorem dX6_does_14 : decode cX6_does 14 = .ok (.aload_n 0, 1) := by decide +kernel
theorem dX6_does_15 : decode cX6_does 15 = .ok (.getfield 33, 3) := by decide +kernel
theorem dX6_does_18 : decode cX6_does 18 = .ok (.iconst 2, 1) := by decide +kernel
theorem dX6_does_19 : decode cX6_does 19 = .ok (.iaload, 1) := by decide +kernel
theorem dX6_does_20 : decode cX6_does 20 = .ok (.istore_n 3, 1) := by decide +kernel
theorem dX6_does_21 : decode cX6_does 21 = .ok (.iload_n 1, 1) := by decide +kernel
theorem dX6_does_22 : decode cX6_does 22 = .ok (.bipush 103, 2) := by decide +kernel
theorem dX6_does_24 : decode cX6_does 24 = .ok (.if_icmp .ne 7, 3) := by decide +kernel
theorem dX6_does_27 : decode cX6_does 27 = .ok (.iconst 1, 1) := by decide +kernel
theorem dX6_does_28 : decode cX6_does 28 = .ok (.goto 4, 3) := by decide +kernel
theorem dX6_does_31 : decode cX6_does 31 = .ok (.iconst 2, 1) := by decide +kernel
theorem dX6_does_32 : decode cX6_does 32 = .ok (.istore 4, 2) := by decide +kernel
theorem dX6_does_34 : decode cX6_does 34 = .ok (.iload_n 1, 1) := by decide +kernel
theorem dX6_does_35 : decode cX6_does 35 = .ok (.bipush 112, 2) := by decide +kernel
theorem dX6_does_37 : decode cX6_does 37 = .ok (.if_icmp .ne 12, 3) := by decide +kernel
theorem dX6_does_40 : decode cX6_does 40 = .ok (.aload_n 0, 1) := by decide +kernel
theorem dX6_does_41 : decode cX6_does 41 = .ok (.iload_n 2, 1) := by decide +kernel
theorem dX6_does_42 : decode cX6_does 42 = .ok (.iload_n 3, 1) := by decide +kernel
theorem dX6_does_43 : decode cX6_does 43 = .ok (.invokevirtual 108, 3) := by decide +kernel
theorem dX6_does_46 : decode cX6_does 46 = .ok (.goto 39, 3) := by decide +kernel
theorem dX6_does_49 : decode cX6_does 49 = .ok (.iload_n 1, 1) := by decide +kernel
theorem dX6_does_50 : decode cX6_does 50 = .ok (.bipush 100, 2) := by decide +kernel
theorem dX6_does_52 : decode cX6_does 52 = .ok (.if_icmp .ne 19, 3) := by decide +kernel
theorem dX6_does_55 : decode cX6_does 55 = .ok (.aload_n 0, 1) := by decide +kernel
theorem dX6_does_56 : decode cX6_does 56 = .ok (.iload_n 2, 1) := by decide +kernel
theorem dX6_does_57 : decode cX6_does 57 = .ok (.invokevirtual 121, 3) := by decide +kernel
theorem dX6_does_60 : decode cX6_does 60 = .ok (.ifCond .eq 7, 3) := by decide +kernel
theorem dX6_does_63 : decode cX6_does 63 = .ok (.iconst 0, 1) := by decide +kernel
theorem dX6_does_64 : decode cX6_does 64 = .ok (.goto 21, 3) := by decide +kernel
theorem dX6_does_67 : decode cX6_does 67 = .ok (.iconst 1, 1) := by decide +kernel
theorem dX6_does_68 : decode cX6_does 68 = .ok (.goto 17, 3) := by decide +kernel
theorem dX6_does_71 : decode cX6_does 71 = .ok (.aload_n 0, 1) := by decide +kernel
theorem dX6_does_72 : decode cX6_does 72 = .ok (.iload_n 2, 1) := by decide +kernel
theorem dX6_does_73 : decode cX6_does 73 = .ok (.iload_n 3, 1) := by decide +kernel
theorem dX6_does_74 : decode cX6_does 74 = .ok (.iload 4, 2) := by decide +kernel
theorem dX6_does_76 : decode cX6_does 76 = .ok (.aload_n 0, 1) := by decide +kernel
theorem dX6_does_77 : decode cX6_does 77 = .ok (.getfield 33, 3) := by decide +kernel
theorem dX6_does_80 : decode cX6_does 80 = .ok (.iconst 3, 1) := by decide +kernel
theorem dX6_does_81 : decode cX6_does 81 = .ok (.iaload, 1) := by decide +kernel
theorem dX6_does_82 : decode cX6_does 82 = .ok (.invokevirtual 130, 3) := by decide +kernel
theorem dX6_does_85 : decode cX6_does 85 = .ok (.istore 5, 2) := by decide +kernel
theorem dX6_does_87 : decode cX6_does 87 = .ok (.iload 5, 2) := by decide +kernel
theorem dX6_does_89 : decode cX6_does 89 = .ok (.ifCond .ne 48, 3) := by decide +kernel
theorem dX6_does_92 : decode cX6_does 92 = .ok (.iload_n 1, 1) := by decide +kernel
theorem dX6_does_93 : decode cX6_does 93 = .ok (.bipush 112, 2) := by decide +kernel
theorem dX6_does_95 : decode cX6_does 95 = .ok (.if_icmp .ne 12, 3) := by decide +kernel
theorem dX6_does_98 : decode cX6_does 98 = .ok (.aload_n 0, 1) := by decide +kernel
theorem dX6_does_99 : decode cX6_does 99 = .ok (.iload_n 2, 1) := by decide +kernel
theorem dX6_does_100 : decode cX6_does 100 = .ok (.iload_n 3, 1) := by decide +kernel
theorem dX6_does_101 : decode cX6_does 101 = .ok (.invokevirtual 118, 3) := by decide +kernel
theorem dX6_does_104 : decode cX6_does 104 = .ok (.goto 31, 3) := by decide +kernel
theorem dX6_does_107 : decode cX6_does 107 = .ok (.iload_n 1, 1) := by decide +kernel
theorem dX6_does_108 : decode cX6_does 108 = .ok (.bipush 100, 2) := by decide +kernel
theorem dX6_does_110 : decode cX6_does 110 = .ok (.if_icmp .ne 11, 3) := by decide +kernel
theorem dX6_does_113 : decode cX6_does 113 = .ok (.aload_n 0, 1) := by decide +kernel
theorem dX6_does_114 : decode cX6_does 114 = .ok (.iload_n 2, 1) := by decide +kernel
theorem dX6_does_115 : decode cX6_does 115 = .ok (.invokevirtual 153, 3) := by decide +kernel
theorem dX6_does_118 : decode cX6_does 118 = .ok (.goto 17, 3) := by decide +kernel
theorem dX6_does_121 : decode cX6_does 121 = .ok (.aload_n 0, 1) := by decide +kernel
theorem dX6_does_122 : decode cX6_does 122 = .ok (.iload_n 2, 1) := by decide +kernel
theorem dX6_does_123 : decode cX6_does 123 = .ok (.iload_n 3, 1) := by decide +kernel
theorem dX6_does_124 : decode cX6_does 124 = .ok (.iload 4, 2) := by decide +kernel
theorem dX6_does_126 : decode cX6_does 126 = .ok (.aload_n 0, 1) := by decide +kernel
theorem dX6_does_127 : decode cX6_does 127 = .ok (.getfield 33, 3) := by decide +kernel
theorem dX6_does_130 : decode cX6_does 130 = .ok (.iconst 3, 1) := by decide +kernel
theorem dX6_does_131 : decode cX6_does 131 = .ok (.iaload, 1) := by decide +kernel
theorem dX6_does_132 : decode cX6_does 132 = .ok (.invokevirtual 134, 3) := by decide +kernel
theorem dX6_does_135 : decode cX6_does 135 = .ok (.istore 6, 2) := by decide +kernel
theorem dX6_does_137 : decode cX6_does 137 = .ok (.iload 5, 2) := by decide +kernel
theorem dX6_does_139 : decode cX6_does 139 = .ok (.ifCond .ne 7, 3) := by decide +kernel
theorem dX6_does_142 : decode cX6_does 142 = .ok (.iconst 1, 1) := by decide +kernel
theorem dX6_does_143 : decode cX6_does 143 = .ok (.goto 4, 3) := by decide +kernel
theorem dX6_does_146 : decode cX6_does 146 = .ok (.iconst 0, 1) := by decide +kernel
theorem dX6_does_147 : decode cX6_does 147 = .ok (.ireturn, 1) := by decide +kernel
set_option maxRecDepth 20000 in
theorem ggX6_go_X6_order : GoodIn wsX6_go wsX6_order := goodIn_r _ [8, 1, 3, 9, 2, 10, 11, 12, 13, 7, 14, 15, 16, 17, 18, 19, 20, 21, 22, 23, 24, 25, 101, 102, 103, 104, 105, 106, 107, 108, 109, 110, 111, 112, 113, 114, 115, 116, 117, 118, 119, 120, 121] (by decide +kernel) (by decide +kernel)
set_option maxRecDepth 20000 in
theorem gX6_go_X6_order : GoodIn wsX6_go (wsV RX6 182 RX6 yX6_order wsX6_order) := goodIn_app (goodIn_of _ (by decide +kernel)) ggX6_go_X6_order
set_option maxRecDepth 20000 in
theorem ggX6_go_X6_does : GoodIn wsX6_go wsX6_does := goodIn_r _ [29, 10, 30, 31, 32, 7, 33, 34, 35, 36, 37, 19, 20, 21, 38, 39, 40, 41, 42, 43, 44, 45, 46, 47, 48, 49, 50, 51, 52, 53, 54, 55, 56, 57, 58, 59, 60, 61, 62, 63, 64, 65, 66, 67, 68, 69, 70, 71, 72, 73, 74, 75, 76, 77, 78, 79, 80, 81, 82, 83, 84, 85, 86, 87, 88, 89, 90, 91, 92, 93, 94, 95, 96, 97, 98, 99, 100, 101, 102, 103, 104, 105, 106, 107, 108, 109, 110, 111, 112, 113, 114, 115, 116, 117, 118, 119, 120, 121] (by decide +kernel) (by decide +kernel)
set_option maxRecDepth 20000 in
theorem gX6_go_X6_does : GoodIn wsX6_go (wsV RX6 185 RX6 yX6_does wsX6_does) := goodIn_app (goodIn_of _ (by decide +kernel)) ggX6_go_X6_does
set_option maxRecDepth 20000 in
theorem ggX6_go_X6_sign : GoodIn wsX6_go wsX6_sign := goodIn_r _ [18, 1, 3, 9, 2, 19, 20, 7, 21, 101, 102, 103, 104, 105, 106, 107, 108, 109, 110, 111, 112, 113, 114, 115, 116, 117, 118, 119, 120, 121] (by decide +kernel) (by decide +kernel)
set_option maxRecDepth 20000 in
theorem gX6_go_X6_sign : GoodIn wsX6_go (wsV RX6 172 RX6 yX6_sign wsX6_sign) := goodIn_app (goodIn_of _ (by decide +kernel)) ggX6_go_X6_sign
theorem dX6_go_0 : decode cX6_go 0 = .ok (.aload_n 0, 1) := by decide +kernel
theorem dX6_go_1 : decode cX6_go 1 = .ok (.iconst 0, 1) := by decide +kernel
theorem dX6_go_2 : decode cX6_go 2 = .ok (.putfield 166, 3) := by decide +kernel
theorem dX6_go_5 : decode cX6_go 5 = .ok (.aload_n 0, 1) := by decide +kernel
theorem dX6_go_6 : decode cX6_go 6 = .ok (.iconst 0, 1) := by decide +kernel
theorem dX6_go_7 : decode cX6_go 7 = .ok (.putfield 169, 3) := by decide +kernel
theorem dX6_go_10 : decode cX6_go 10 = .ok (.iconst 0, 1) := by decide +kernel
theorem dX6_go_11 : decode cX6_go 11 = .ok (.istore_n 2, 1) := by decide +kernel
theorem dX6_go_12 : decode cX6_go 12 = .ok (.iconst 1, 1) := by decide +kernel
theorem dX6_go_13 : decode cX6_go 13 = .ok (.istore_n 3, 1) := by decide +kernel
theorem dX6_go_14 : decode cX6_go 14 = .ok (.iload_n 3, 1) := by decide +kernel
theorem dX6_go_15 : decode cX6_go 15 = .ok (.ifCond .eq 101, 3) := by decide +kernel
theorem dX6_go_18 : decode cX6_go 18 = .ok (.aload_n 0, 1) := by decide +kernel
theorem dX6_go_19 : decode cX6_go 19 = .ok (.invokevirtual 182, 3) := by decide +kernel
theorem dX6_go_22 : decode cX6_go 22 = .ok (.iload_n 1, 1) := by decide +kernel
theorem dX6_go_23 : decode cX6_go 23 = .ok (.ifCond .eq 14, 3) := by decide +kernel
theorem dX6_go_26 : decode cX6_go 26 = .ok (.aload_n 0, 1) := by decide +kernel
theorem dX6_go_27 : decode cX6_go 27 = .ok (.invokevirtual 185, 3) := by decide +kernel
theorem dX6_go_30 : decode cX6_go 30 = .ok (.ifCond .eq 7, 3) := by decide +kernel
theorem dX6_go_33 : decode cX6_go 33 = .ok (.iconst 1, 1) := by decide +kernel
theorem dX6_go_34 : decode cX6_go 34 = .ok (.goto 4, 3) := by decide +kernel
theorem dX6_go_37 : decode cX6_go 37 = .ok (.iconst 0, 1) := by decide +kernel
theorem dX6_go_38 : decode cX6_go 38 = .ok (.istore 4, 2) := by decide +kernel
theorem dX6_go_40 : decode cX6_go 40 = .ok (.iload_n 2, 1) := by decide +kernel
theorem dX6_go_41 : decode cX6_go 41 = .ok (.iload 4, 2) := by decide +kernel
theorem dX6_go_43 : decode cX6_go 43 = .ok (.ifCond .eq 7, 3) := by decide +kernel
theorem dX6_go_46 : decode cX6_go 46 = .ok (.iconst 1, 1) := by decide +kernel
theorem dX6_go_47 : decode cX6_go 47 = .ok (.goto 4, 3) := by decide +kernel
theorem dX6_go_50 : decode cX6_go 50 = .ok (.iconst 0, 1) := by decide +kernel
theorem dX6_go_51 : decode cX6_go 51 = .ok (.iadd, 1) := by decide +kernel
theorem dX6_go_52 : decode cX6_go 52 = .ok (.istore_n 2, 1) := by decide +kernel
theorem dX6_go_53 : decode cX6_go 53 = .ok (.aload_n 0, 1) := by decide +kernel
theorem dX6_go_54 : decode cX6_go 54 = .ok (.getfield 169, 3) := by decide +kernel
theorem dX6_go_57 : decode cX6_go 57 = .ok (.ifCond .ne 27, 3) := by decide +kernel
theorem dX6_go_60 : decode cX6_go 60 = .ok (.iload 4, 2) := by decide +kernel
theorem dX6_go_62 : decode cX6_go 62 = .ok (.ifCond .ne 7, 3) := by decide +kernel
theorem dX6_go_65 : decode cX6_go 65 = .ok (.iload_n 1, 1) := by decide +kernel
theorem dX6_go_66 : decode cX6_go 66 = .ok (.ifCond .ne 18, 3) := by decide +kernel
theorem dX6_go_69 : decode cX6_go 69 = .ok (.aload_n 0, 1) := by decide +kernel
theorem dX6_go_70 : decode cX6_go 70 = .ok (.getfield 166, 3) := by decide +kernel
theorem dX6_go_73 : decode cX6_go 73 = .ok (.aload_n 0, 1) := by decide +kernel
theorem dX6_go_74 : decode cX6_go 74 = .ok (.getfield 163, 3) := by decide +kernel
theorem dX6_go_77 : decode cX6_go 77 = .ok (.if_icmp .ge 7, 3) := by decide +kernel
theorem dX6_go_80 : decode cX6_go 80 = .ok (.iconst 1, 1) := by decide +kernel
theorem dX6_go_81 : decode cX6_go 81 = .ok (.goto 4, 3) := by decide +kernel
theorem dX6_go_84 : decode cX6_go 84 = .ok (.iconst 0, 1) := by decide +kernel
theorem dX6_go_85 : decode cX6_go 85 = .ok (.istore_n 3, 1) := by decide +kernel
theorem dX6_go_86 : decode cX6_go 86 = .ok (.iload_n 3, 1) := by decide +kernel
theorem dX6_go_87 : decode cX6_go 87 = .ok (.ifCond .eq 26, 3) := by decide +kernel
theorem dX6_go_90 : decode cX6_go 90 = .ok (.aload_n 0, 1) := by decide +kernel
theorem dX6_go_91 : decode cX6_go 91 = .ok (.bipush 59, 2) := by decide +kernel
theorem dX6_go_93 : decode cX6_go 93 = .ok (.bipush 59, 2) := by decide +kernel
theorem dX6_go_95 : decode cX6_go 95 = .ok (.invokevirtual 172, 3) := by decide +kernel
theorem dX6_go_98 : decode cX6_go 98 = .ok (.istore 5, 2) := by decide +kernel
theorem dX6_go_100 : decode cX6_go 100 = .ok (.aload_n 0, 1) := by decide +kernel
theorem dX6_go_101 : decode cX6_go 101 = .ok (.getfield 169, 3) := by decide +kernel
theorem dX6_go_104 : decode cX6_go 104 = .ok (.ifCond .ne 7, 3) := by decide +kernel
theorem dX6_go_107 : decode cX6_go 107 = .ok (.iconst 1, 1) := by decide +kernel
theorem dX6_go_108 : decode cX6_go 108 = .ok (.goto 4, 3) := by decide +kernel
theorem dX6_go_111 : decode cX6_go 111 = .ok (.iconst 0, 1) := by decide +kernel
theorem dX6_go_112 : decode cX6_go 112 = .ok (.istore_n 3, 1) := by decide +kernel
theorem dX6_go_113 : decode cX6_go 113 = .ok (.goto (-99), 3) := by decide +kernel
theorem dX6_go_116 : decode cX6_go 116 = .ok (.iload_n 2, 1) := by decide +kernel
theorem dX6_go_117 : decode cX6_go 117 = .ok (.ireturn, 1) := by decide +kernel
set_option maxRecDepth 20000 in
theorem ggX6_firstError_X6_go : GoodIn wsX6_firstError wsX6_go := goodIn_r _ [9, 3, 2, 4, 10, 11, 12, 8, 13, 14, 15, 16, 17, 18, 19, 20, 21, 22, 23, 24, 25, 26, 27, 28, 29, 30, 31, 32, 33, 34, 35, 36, 37, 38, 39, 40, 41, 42, 43, 44, 45, 46, 47, 48, 49, 50, 51, 52, 53, 54, 55, 56, 57, 58, 59, 60, 61, 62, 63, 64, 65, 66, 67, 68, 69, 70, 71, 72, 73, 74, 75, 76, 77, 78, 79, 80, 81, 82, 83, 84, 85, 86, 87, 88, 89, 90, 91, 92, 93, 94, 95, 96, 97, 98, 99, 100, 101, 102, 103, 104, 105, 106, 107, 108, 109, 110, 111, 112, 113, 114, 115, 116, 117, 118, 119, 120, 121, 122, 123, 124, 125, 126] (by decide +kernel) (by decide +kernel)
set_option maxRecDepth 20000 in
theorem gX6_firstError_X6_go : GoodIn wsX6_firstError (wsV RX6 188 RX6 yX6_go wsX6_go) := goodIn_app (goodIn_of _ (by decide +kernel)) ggX6_firstError_X6_go
theorem dX6_firstError_0 : decode cX6_firstError 0 = .ok (.aload_n 0, 1) := by decide +kernel
theorem dX6_firstError_1 : decode cX6_firstError 1 = .ok (.iconst 0, 1) := by decide +kernel
theorem dX6_firstError_2 : decode cX6_firstError 2 = .ok (.putfield 42, 3) := by decide +kernel
theorem dX6_firstError_5 : decode cX6_firstError 5 = .ok (.aload_n 0, 1) := by decide +kernel
theorem dX6_firstError_6 : decode cX6_firstError 6 = .ok (.iconst 0, 1) := by decide +kernel
theorem dX6_firstError_7 : decode cX6_firstError 7 = .ok (.invokevirtual 188, 3) := by decide +kernel
theorem dX6_firstError_10 : decode cX6_firstError 10 = .ok (.istore_n 1, 1) := by decide +kernel
theorem dX6_firstError_11 : decode cX6_firstError 11 = .ok (.aload_n 0, 1) := by decide +kernel
theorem dX6_firstError_12 : decode cX6_firstError 12 = .ok (.getfield 169, 3) := by decide +kernel
theorem dX6_firstError_15 : decode cX6_firstError 15 = .ok (.ifCond .eq 10, 3) := by decide +kernel
theorem dX6_firstError_18 : decode cX6_firstError 18 = .ok (.aload_n 0, 1) := by decide +kernel
theorem dX6_firstError_19 : decode cX6_firstError 19 = .ok (.getfield 166, 3) := by decide +kernel
theorem dX6_firstError_22 : decode cX6_firstError 22 = .ok (.goto 7, 3) := by decide +kernel
theorem dX6_firstError_25 : decode cX6_firstError 25 = .ok (.aload_n 0, 1) := by decide +kernel
theorem dX6_firstError_26 : decode cX6_firstError 26 = .ok (.getfield 163, 3) := by decide +kernel
theorem dX6_firstError_29 : decode cX6_firstError 29 = .ok (.ireturn, 1) := by decide +kernel
set_option maxRecDepth 20000 in
theorem ggX6_build_X6_go : GoodIn wsX6_build wsX6_go := goodIn_r _ [7, 8, 1, 2, 9, 10, 11, 6, 12, 13, 14, 15, 16, 17, 18, 19, 20, 21, 22, 23, 24, 25, 26, 27, 28, 29, 30, 31, 32, 33, 34, 35, 36, 37, 38, 39, 40, 41, 42, 43, 44, 45, 46, 47, 48, 49, 50, 51, 52, 53, 54, 55, 56, 57, 58, 59, 60, 61, 62, 63, 64, 65, 66, 67, 68, 69, 70, 71, 72, 73, 74, 75, 76, 77, 78, 79, 80, 81, 82, 83, 84, 85, 86, 87, 88, 89, 90, 91, 92, 93, 94, 95, 96, 97, 98, 99, 100, 101, 102, 103, 104, 116, 117, 118, 119, 120, 121, 122, 123, 124, 125, 126, 127, 128, 129, 130, 131, 132, 133, 134, 135, 136] (by decide +kernel) (by decide +kernel)
set_option maxRecDepth 20000 in
theorem gX6_build_X6_go : GoodIn wsX6_build (wsV RX6 188 RX6 yX6_go wsX6_go) := goodIn_app (goodIn_of _ (by decide +kernel)) ggX6_build_X6_go
set_option maxRecDepth 20000 in
theorem ggX6_build_X6_holds : GoodIn wsX6_build wsX6_holds := goodIn_r _ [108, 109, 116, 117, 118, 119, 120, 121, 122, 123, 124, 125, 126, 127, 128, 129, 130, 131, 132, 133, 134, 135, 136] (by decide +kernel) (by decide +kernel)
set_option maxRecDepth 20000 in
theorem gX6_build_X6_holds : GoodIn wsX6_build (wsV RX6 111 RX6 yX6_holds wsX6_holds) := goodIn_app (goodIn_of _ (by decide +kernel)) ggX6_build_X6_holds
set_option maxRecDepth 20000 in
theorem ggX6_build_X6_save : GoodIn wsX6_build wsX6_save := goodIn_r _ [113, 114, 115, 38, 116, 117, 118, 119, 120, 121, 122, 123, 124, 125, 126, 127, 128, 129, 130, 131, 132, 133, 134, 135, 136] (by decide +kernel) (by decide +kernel)
set_option maxRecDepth 20000 in
theorem gX6_build_X6_save : GoodIn wsX6_build (wsV RX6 115 RX6 yX6_save wsX6_save) := goodIn_app (goodIn_of _ (by decide +kernel)) ggX6_build_X6_save
theorem dX6_build_0 : decode cX6_build 0 = .ok (.aload_n 0, 1) := by decide +kernel
theorem dX6_build_1 : decode cX6_build 1 = .ok (.iconst 0, 1) := by decide +kernel
theorem dX6_build_2 : decode cX6_build 2 = .ok (.invokevirtual 188, 3) := by decide +kernel
theorem dX6_build_5 : decode cX6_build 5 = .ok (.istore_n 1, 1) := by decide +kernel
theorem dX6_build_6 : decode cX6_build 6 = .ok (.aload_n 0, 1) := by decide +kernel
theorem dX6_build_7 : decode cX6_build 7 = .ok (.aload_n 0, 1) := by decide +kernel
theorem dX6_build_8 : decode cX6_build 8 = .ok (.getfield 169, 3) := by decide +kernel
theorem dX6_build_11 : decode cX6_build 11 = .ok (.ifCond .eq 7, 3) := by decide +kernel
theorem dX6_build_14 : decode cX6_build 14 = .ok (.iconst 1, 1) := by decide +kernel
theorem dX6_build_15 : decode cX6_build 15 = .ok (.goto 4, 3) := by decide +kernel
theorem dX6_build_18 : decode cX6_build 18 = .ok (.iconst 0, 1) := by decide +kernel
theorem dX6_build_19 : decode cX6_build 19 = .ok (.invokevirtual 111, 3) := by decide +kernel
theorem dX6_build_22 : decode cX6_build 22 = .ok (.ifCond .ne 5, 3) := by decide +kernel
theorem dX6_build_25 : decode cX6_build 25 = .ok (.iconst 0, 1) := by decide +kernel
theorem dX6_build_26 : decode cX6_build 26 = .ok (.ireturn, 1) := by decide +kernel
theorem dX6_build_27 : decode cX6_build 27 = .ok (.aload_n 0, 1) := by decide +kernel
theorem dX6_build_28 : decode cX6_build 28 = .ok (.invokevirtual 115, 3) := by decide +kernel
theorem dX6_build_31 : decode cX6_build 31 = .ok (.aload_n 0, 1) := by decide +kernel
theorem dX6_build_32 : decode cX6_build 32 = .ok (.iconst 1, 1) := by decide +kernel
theorem dX6_build_33 : decode cX6_build 33 = .ok (.invokevirtual 188, 3) := by decide +kernel
theorem dX6_build_36 : decode cX6_build 36 = .ok (.istore_n 2, 1) := by decide +kernel
theorem dX6_build_37 : decode cX6_build 37 = .ok (.aload_n 0, 1) := by decide +kernel
theorem dX6_build_38 : decode cX6_build 38 = .ok (.iconst 0, 1) := by decide +kernel
theorem dX6_build_39 : decode cX6_build 39 = .ok (.putfield 163, 3) := by decide +kernel
theorem dX6_build_42 : decode cX6_build 42 = .ok (.iload_n 2, 1) := by decide +kernel
theorem dX6_build_43 : decode cX6_build 43 = .ok (.ireturn, 1) := by decide +kernel
set_option maxRecDepth 20000 in
theorem ggX6_undo_X6_holds : GoodIn wsX6_undo wsX6_holds := goodIn_r _ [8, 9, 10, 11, 12, 13, 14, 15, 16, 17, 18, 19, 20, 21, 22, 23, 24, 25, 26, 27, 28, 29, 30] (by decide +kernel) (by decide +kernel)
set_option maxRecDepth 20000 in
theorem gX6_undo_X6_holds : GoodIn wsX6_undo (wsV RX6 111 RX6 yX6_holds wsX6_holds) := goodIn_app (goodIn_of _ (by decide +kernel)) ggX6_undo_X6_holds
theorem dX6_undo_0 : decode cX6_undo 0 = .ok (.aload_n 0, 1) := by decide +kernel
theorem dX6_undo_1 : decode cX6_undo 1 = .ok (.aload_n 0, 1) := by decide +kernel
theorem dX6_undo_2 : decode cX6_undo 2 = .ok (.getfield 50, 3) := by decide +kernel
theorem dX6_undo_5 : decode cX6_undo 5 = .ok (.ifCond .le 7, 3) := by decide +kernel
theorem dX6_undo_8 : decode cX6_undo 8 = .ok (.iconst 0, 1) := by decide +kernel
theorem dX6_undo_9 : decode cX6_undo 9 = .ok (.goto 4, 3) := by decide +kernel
theorem dX6_undo_12 : decode cX6_undo 12 = .ok (.iconst 1, 1) := by decide +kernel
theorem dX6_undo_13 : decode cX6_undo 13 = .ok (.invokevirtual 111, 3) := by decide +kernel
theorem dX6_undo_16 : decode cX6_undo 16 = .ok (.ifCond .ne 5, 3) := by decide +kernel
theorem dX6_undo_19 : decode cX6_undo 19 = .ok (.iconst 0, 1) := by decide +kernel
theorem dX6_undo_20 : decode cX6_undo 20 = .ok (.ireturn, 1) := by decide +kernel
theorem dX6_undo_21 : decode cX6_undo 21 = .ok (.aload_n 0, 1) := by decide +kernel
theorem dX6_undo_22 : decode cX6_undo 22 = .ok (.dup, 1) := by decide +kernel
theorem dX6_undo_23 : decode cX6_undo 23 = .ok (.getfield 50, 3) := by decide +kernel
theorem dX6_undo_26 : decode cX6_undo 26 = .ok (.iconst 1, 1) := by decide +kernel
theorem dX6_undo_27 : decode cX6_undo 27 = .ok (.isub, 1) := by decide +kernel
theorem dX6_undo_28 : decode cX6_undo 28 = .ok (.putfield 50, 3) := by decide +kernel
theorem dX6_undo_31 : decode cX6_undo 31 = .ok (.iconst 0, 1) := by decide +kernel
theorem dX6_undo_32 : decode cX6_undo 32 = .ok (.istore_n 1, 1) := by decide +kernel
theorem dX6_undo_33 : decode cX6_undo 33 = .ok (.iload_n 1, 1) := by decide +kernel
theorem dX6_undo_34 : decode cX6_undo 34 = .ok (.bipush 60, 2) := by decide +kernel
theorem dX6_undo_36 : decode cX6_undo 36 = .ok (.if_icmp .ge 29, 3) := by decide +kernel
theorem dX6_undo_39 : decode cX6_undo 39 = .ok (.aload_n 0, 1) := by decide +kernel
theorem dX6_undo_40 : decode cX6_undo 40 = .ok (.getfield 7, 3) := by decide +kernel
theorem dX6_undo_43 : decode cX6_undo 43 = .ok (.iload_n 1, 1) := by decide +kernel
theorem dX6_undo_44 : decode cX6_undo 44 = .ok (.aload_n 0, 1) := by decide +kernel
theorem dX6_undo_45 : decode cX6_undo 45 = .ok (.getfield 16, 3) := by decide +kernel
theorem dX6_undo_48 : decode cX6_undo 48 = .ok (.bipush 60, 2) := by decide +kernel
theorem dX6_undo_50 : decode cX6_undo 50 = .ok (.aload_n 0, 1) := by decide +kernel
theorem dX6_undo_51 : decode cX6_undo 51 = .ok (.getfield 50, 3) := by decide +kernel
theorem dX6_undo_54 : decode cX6_undo 54 = .ok (.imul, 1) := by decide +kernel
theorem dX6_undo_55 : decode cX6_undo 55 = .ok (.iload_n 1, 1) := by decide +kernel
theorem dX6_undo_56 : decode cX6_undo 56 = .ok (.iadd, 1) := by decide +kernel
theorem dX6_undo_57 : decode cX6_undo 57 = .ok (.iaload, 1) := by decide +kernel
theorem dX6_undo_58 : decode cX6_undo 58 = .ok (.iastore, 1) := by decide +kernel
theorem dX6_undo_59 : decode cX6_undo 59 = .ok (.iinc 1 1, 3) := by decide +kernel
theorem dX6_undo_62 : decode cX6_undo 62 = .ok (.goto (-29), 3) := by decide +kernel
theorem dX6_undo_65 : decode cX6_undo 65 = .ok (.aload_n 0, 1) := by decide +kernel
theorem dX6_undo_66 : decode cX6_undo 66 = .ok (.getfield 50, 3) := by decide +kernel
theorem dX6_undo_69 : decode cX6_undo 69 = .ok (.ireturn, 1) := by decide +kernel
set_option maxRecDepth 20000 in
theorem ggX6_pegOf_X6_teeth : GoodIn wsX6_pegOf wsX6_teeth := goodIn_r _ [8, 1, 36, 37, 38, 39, 40, 41, 42, 43, 44, 45, 46, 47, 48, 49, 50, 51, 52, 53, 54, 55, 56] (by decide +kernel) (by decide +kernel)
set_option maxRecDepth 20000 in
theorem gX6_pegOf_X6_teeth : GoodIn wsX6_pegOf (wsV RX6 60 RX6 yX6_teeth wsX6_teeth) := goodIn_app (goodIn_of _ (by decide +kernel)) ggX6_pegOf_X6_teeth
set_option maxRecDepth 20000 in
theorem ggX6_pegOf_X6_kind : GoodIn wsX6_pegOf wsX6_kind := goodIn_r _ [12, 1, 36, 37, 38, 39, 40, 41, 42, 43, 44, 45, 46, 47, 48, 49, 50, 51, 52, 53, 54, 55, 56] (by decide +kernel) (by decide +kernel)
set_option maxRecDepth 20000 in
theorem gX6_pegOf_X6_kind : GoodIn wsX6_pegOf (wsV RX6 53 RX6 yX6_kind wsX6_kind) := goodIn_app (goodIn_of _ (by decide +kernel)) ggX6_pegOf_X6_kind
set_option maxRecDepth 20000 in
theorem ggX6_pegOf_X6_partners : GoodIn wsX6_pegOf wsX6_partners := goodIn_r _ [16, 1, 17, 18, 19, 7, 20, 21, 22, 23, 24, 25, 26, 27, 28, 9, 10, 11, 12, 29, 30, 31, 32, 4, 5, 6, 8, 33, 34, 35, 36, 37, 38, 39, 40, 41, 42, 43, 44, 45, 46, 47, 48, 49, 50, 51, 52, 53, 54, 55, 56] (by decide +kernel) (by decide +kernel)
set_option maxRecDepth 20000 in
theorem gX6_pegOf_X6_partners : GoodIn wsX6_pegOf (wsV RX6 127 RX6 yX6_partners wsX6_partners) := goodIn_app (goodIn_of _ (by decide +kernel)) ggX6_pegOf_X6_partners
theorem dX6_pegOf_0 : decode cX6_pegOf 0 = .ok (.iload_n 2, 1) := by decide +kernel
theorem dX6_pegOf_1 : decode cX6_pegOf 1 = .ok (.tableswitch 123 0 7 #[47, 56, 66, 66, 75, 75, 84, 91], 47) := by decide +kernel
theorem dX6_pegOf_48 : decode cX6_pegOf 48 = .ok (.aload_n 0, 1) := by decide +kernel
theorem dX6_pegOf_49 : decode cX6_pegOf 49 = .ok (.getfield 7, 3) := by decide +kernel
theorem dX6_pegOf_52 : decode cX6_pegOf 52 = .ok (.iconst 1, 1) := by decide +kernel
theorem dX6_pegOf_53 : decode cX6_pegOf 53 = .ok (.iload_n 1, 1) := by decide +kernel
theorem dX6_pegOf_54 : decode cX6_pegOf 54 = .ok (.iadd, 1) := by decide +kernel
theorem dX6_pegOf_55 : decode cX6_pegOf 55 = .ok (.iaload, 1) := by decide +kernel
theorem dX6_pegOf_56 : decode cX6_pegOf 56 = .ok (.ireturn, 1) := by decide +kernel
theorem dX6_pegOf_57 : decode cX6_pegOf 57 = .ok (.aload_n 0, 1) := by decide +kernel
theorem dX6_pegOf_58 : decode cX6_pegOf 58 = .ok (.getfield 7, 3) := by decide +kernel
theorem dX6_pegOf_61 : decode cX6_pegOf 61 = .ok (.bipush 10, 2) := by decide +kernel
theorem dX6_pegOf_63 : decode cX6_pegOf 63 = .ok (.iload_n 1, 1) := by decide +kernel
theorem dX6_pegOf_64 : decode cX6_pegOf 64 = .ok (.iadd, 1) := by decide +kernel
theorem dX6_pegOf_65 : decode cX6_pegOf 65 = .ok (.iaload, 1) := by decide +kernel
theorem dX6_pegOf_66 : decode cX6_pegOf 66 = .ok (.ireturn, 1) := by decide +kernel
theorem dX6_pegOf_67 : decode cX6_pegOf 67 = .ok (.aload_n 0, 1) := by decide +kernel
theorem dX6_pegOf_68 : decode cX6_pegOf 68 = .ok (.iload_n 1, 1) := by decide +kernel
theorem dX6_pegOf_69 : decode cX6_pegOf 69 = .ok (.iload_n 2, 1) := by decide +kernel
theorem dX6_pegOf_70 : decode cX6_pegOf 70 = .ok (.iconst 2, 1) := by decide +kernel
theorem dX6_pegOf_71 : decode cX6_pegOf 71 = .ok (.isub, 1) := by decide +kernel
theorem dX6_pegOf_72 : decode cX6_pegOf 72 = .ok (.invokevirtual 60, 3) := by decide +kernel
theorem dX6_pegOf_75 : decode cX6_pegOf 75 = .ok (.ireturn, 1) := by decide +kernel
theorem dX6_pegOf_76 : decode cX6_pegOf 76 = .ok (.aload_n 0, 1) := by decide +kernel
theorem dX6_pegOf_77 : decode cX6_pegOf 77 = .ok (.iload_n 1, 1) := by decide +kernel
theorem dX6_pegOf_78 : decode cX6_pegOf 78 = .ok (.iload_n 2, 1) := by decide +kernel
theorem dX6_pegOf_79 : decode cX6_pegOf 79 = .ok (.iconst 4, 1) := by decide +kernel
theorem dX6_pegOf_80 : decode cX6_pegOf 80 = .ok (.isub, 1) := by decide +kernel
theorem dX6_pegOf_81 : decode cX6_pegOf 81 = .ok (.invokevirtual 53, 3) := by decide +kernel
theorem dX6_pegOf_84 : decode cX6_pegOf 84 = .ok (.ireturn, 1) := by decide +kernel
theorem dX6_pegOf_85 : decode cX6_pegOf 85 = .ok (.aload_n 0, 1) := by decide +kernel
theorem dX6_pegOf_86 : decode cX6_pegOf 86 = .ok (.iload_n 1, 1) := by decide +kernel
theorem dX6_pegOf_87 : decode cX6_pegOf 87 = .ok (.iconst 3, 1) := by decide +kernel
theorem dX6_pegOf_88 : decode cX6_pegOf 88 = .ok (.invokevirtual 127, 3) := by decide +kernel
theorem dX6_pegOf_91 : decode cX6_pegOf 91 = .ok (.ireturn, 1) := by decide +kernel
theorem dX6_pegOf_92 : decode cX6_pegOf 92 = .ok (.aload_n 0, 1) := by decide +kernel
theorem dX6_pegOf_93 : decode cX6_pegOf 93 = .ok (.getfield 22, 3) := by decide +kernel
theorem dX6_pegOf_96 : decode cX6_pegOf 96 = .ok (.iload_n 1, 1) := by decide +kernel
theorem dX6_pegOf_97 : decode cX6_pegOf 97 = .ok (.laload, 1) := by decide +kernel
theorem dX6_pegOf_98 : decode cX6_pegOf 98 = .ok (.lconst 0, 1) := by decide +kernel
theorem dX6_pegOf_99 : decode cX6_pegOf 99 = .ok (.lcmp, 1) := by decide +kernel
theorem dX6_pegOf_100 : decode cX6_pegOf 100 = .ok (.ifCond .ne 7, 3) := by decide +kernel
theorem dX6_pegOf_103 : decode cX6_pegOf 103 = .ok (.iconst 0, 1) := by decide +kernel
theorem dX6_pegOf_104 : decode cX6_pegOf 104 = .ok (.goto 19, 3) := by decide +kernel
theorem dX6_pegOf_107 : decode cX6_pegOf 107 = .ok (.aload_n 0, 1) := by decide +kernel
theorem dX6_pegOf_108 : decode cX6_pegOf 108 = .ok (.getfield 22, 3) := by decide +kernel
theorem dX6_pegOf_111 : decode cX6_pegOf 111 = .ok (.iload_n 1, 1) := by decide +kernel
theorem dX6_pegOf_112 : decode cX6_pegOf 112 = .ok (.laload, 1) := by decide +kernel
theorem dX6_pegOf_113 : decode cX6_pegOf 113 = .ok (.lconst 0, 1) := by decide +kernel
theorem dX6_pegOf_114 : decode cX6_pegOf 114 = .ok (.lcmp, 1) := by decide +kernel
theorem dX6_pegOf_115 : decode cX6_pegOf 115 = .ok (.ifCond .le 7, 3) := by decide +kernel
theorem dX6_pegOf_118 : decode cX6_pegOf 118 = .ok (.iconst 1, 1) := by decide +kernel
theorem dX6_pegOf_119 : decode cX6_pegOf 119 = .ok (.goto 4, 3) := by decide +kernel
theorem dX6_pegOf_122 : decode cX6_pegOf 122 = .ok (.iconst 2, 1) := by decide +kernel
theorem dX6_pegOf_123 : decode cX6_pegOf 123 = .ok (.ireturn, 1) := by decide +kernel
theorem dX6_pegOf_124 : decode cX6_pegOf 124 = .ok (.aload_n 0, 1) := by decide +kernel
theorem dX6_pegOf_125 : decode cX6_pegOf 125 = .ok (.getfield 29, 3) := by decide +kernel
theorem dX6_pegOf_128 : decode cX6_pegOf 128 = .ok (.iload_n 1, 1) := by decide +kernel
theorem dX6_pegOf_129 : decode cX6_pegOf 129 = .ok (.baload, 1) := by decide +kernel
theorem dX6_pegOf_130 : decode cX6_pegOf 130 = .ok (.ifCond .eq 7, 3) := by decide +kernel
theorem dX6_pegOf_133 : decode cX6_pegOf 133 = .ok (.iconst 1, 1) := by decide +kernel
theorem dX6_pegOf_134 : decode cX6_pegOf 134 = .ok (.goto 4, 3) := by decide +kernel
theorem dX6_pegOf_137 : decode cX6_pegOf 137 = .ok (.iconst 0, 1) := by decide +kernel
theorem dX6_pegOf_138 : decode cX6_pegOf 138 = .ok (.ireturn, 1) := by decide +kernel
set_option maxRecDepth 20000 in
theorem ggX6_peg_X6_layOut : GoodIn wsX6_peg wsX6_layOut := goodIn_r _ [5, 6, 7, 8, 9, 10, 11, 12, 13, 14, 15, 4, 16, 17, 18, 19, 20, 21, 22, 23, 24, 25, 26, 27, 28, 29, 30, 31, 32, 33, 34, 35, 36, 37, 38, 39, 40, 41, 42, 43, 68, 69, 70, 71, 72, 73, 74, 75, 76, 77, 78, 79, 80, 81, 82, 83, 84, 85, 86, 87, 88] (by decide +kernel) (by decide +kernel)
set_option maxRecDepth 20000 in
theorem gX6_peg_X6_layOut : GoodIn wsX6_peg (wsV RX6 156 RX6 yX6_layOut wsX6_layOut) := goodIn_app (goodIn_of _ (by decide +kernel)) ggX6_peg_X6_layOut
set_option maxRecDepth 20000 in
theorem ggX6_peg_X6_isPeg : GoodIn wsX6_peg wsX6_isPeg := goodIn_r _ [47, 8, 48, 49, 4, 50, 68, 69, 70, 71, 72, 73, 74, 75, 76, 77, 78, 79, 80, 81, 82, 83, 84, 85, 86, 87, 88] (by decide +kernel) (by decide +kernel)
set_option maxRecDepth 20000 in
theorem gX6_peg_X6_isPeg : GoodIn wsX6_peg (wsV RX6 121 RX6 yX6_isPeg wsX6_isPeg) := goodIn_app (goodIn_of _ (by decide +kernel)) ggX6_peg_X6_isPeg
set_option maxRecDepth 20000 in
theorem ggX6_peg_X6_in : GoodIn wsX6_peg wsX6_in := goodIn_r _ [50] (by decide +kernel) (by decide +kernel)
set_option maxRecDepth 20000 in
theorem gX6_peg_X6_in : GoodIn wsX6_peg (va_wsS RX6 46 yX6_in wsX6_in) := goodIn_app (goodIn_of _ (by decide +kernel)) ggX6_peg_X6_in
set_option maxRecDepth 20000 in
theorem ggX6_peg_X6_holds : GoodIn wsX6_peg wsX6_holds := goodIn_r _ [54, 55, 68, 69, 70, 71, 72, 73, 74, 75, 76, 77, 78, 79, 80, 81, 82, 83, 84, 85, 86, 87, 88] (by decide +kernel) (by decide +kernel)
set_option maxRecDepth 20000 in
theorem gX6_peg_X6_holds : GoodIn wsX6_peg (wsV RX6 111 RX6 yX6_holds wsX6_holds) := goodIn_app (goodIn_of _ (by decide +kernel)) ggX6_peg_X6_holds
set_option maxRecDepth 20000 in
theorem ggX6_peg_X6_pegOf : GoodIn wsX6_peg wsX6_pegOf := goodIn_r _ [59, 8, 9, 7, 29, 30, 31, 4, 32, 21, 22, 23, 24, 60, 61, 62, 63, 64, 65, 66, 67, 13, 14, 15, 16, 17, 18, 19, 20, 25, 26, 27, 28, 33, 34, 35, 68, 69, 70, 71, 72, 73, 74, 75, 76, 77, 78, 79, 80, 81, 82, 83, 84, 85, 86, 87, 88] (by decide +kernel) (by decide +kernel)
set_option maxRecDepth 20000 in
theorem gX6_peg_X6_pegOf : GoodIn wsX6_peg (wsV RX6 192 RX6 yX6_pegOf wsX6_pegOf) := goodIn_app (goodIn_of _ (by decide +kernel)) ggX6_peg_X6_pegOf
theorem dX6_peg_0 : decode cX6_peg 0 = .ok (.aload_n 0, 1) := by decide +kernel
theorem dX6_peg_1 : decode cX6_peg 1 = .ok (.invokevirtual 156, 3) := by decide +kernel
theorem dX6_peg_4 : decode cX6_peg 4 = .ok (.aload_n 0, 1) := by decide +kernel
theorem dX6_peg_5 : decode cX6_peg 5 = .ok (.aload_n 0, 1) := by decide +kernel
theorem dX6_peg_6 : decode cX6_peg 6 = .ok (.iload_n 1, 1) := by decide +kernel
theorem dX6_peg_7 : decode cX6_peg 7 = .ok (.invokevirtual 121, 3) := by decide +kernel
theorem dX6_peg_10 : decode cX6_peg 10 = .ok (.ifCond .ne 7, 3) := by decide +kernel
theorem dX6_peg_13 : decode cX6_peg 13 = .ok (.iconst 1, 1) := by decide +kernel
theorem dX6_peg_14 : decode cX6_peg 14 = .ok (.goto 18, 3) := by decide +kernel
theorem dX6_peg_17 : decode cX6_peg 17 = .ok (.iload_n 2, 1) := by decide +kernel
theorem dX6_peg_18 : decode cX6_peg 18 = .ok (.iconst 0, 1) := by decide +kernel
theorem dX6_peg_19 : decode cX6_peg 19 = .ok (.bipush 8, 2) := by decide +kernel
theorem dX6_peg_21 : decode cX6_peg 21 = .ok (.invokestatic 46, 3) := by decide +kernel
theorem dX6_peg_24 : decode cX6_peg 24 = .ok (.ifCond .ne 7, 3) := by decide +kernel
theorem dX6_peg_27 : decode cX6_peg 27 = .ok (.iconst 2, 1) := by decide +kernel
theorem dX6_peg_28 : decode cX6_peg 28 = .ok (.goto 4, 3) := by decide +kernel
theorem dX6_peg_31 : decode cX6_peg 31 = .ok (.iconst 0, 1) := by decide +kernel
theorem dX6_peg_32 : decode cX6_peg 32 = .ok (.invokevirtual 111, 3) := by decide +kernel
theorem dX6_peg_35 : decode cX6_peg 35 = .ok (.ifCond .eq 12, 3) := by decide +kernel
theorem dX6_peg_38 : decode cX6_peg 38 = .ok (.aload_n 0, 1) := by decide +kernel
theorem dX6_peg_39 : decode cX6_peg 39 = .ok (.iload_n 1, 1) := by decide +kernel
theorem dX6_peg_40 : decode cX6_peg 40 = .ok (.iload_n 2, 1) := by decide +kernel
theorem dX6_peg_41 : decode cX6_peg 41 = .ok (.invokevirtual 192, 3) := by decide +kernel
theorem dX6_peg_44 : decode cX6_peg 44 = .ok (.goto 4, 3) := by decide +kernel
theorem dX6_peg_47 : decode cX6_peg 47 = .ok (.iconst 0, 1) := by decide +kernel
theorem dX6_peg_48 : decode cX6_peg 48 = .ok (.ireturn, 1) := by decide +kernel
set_option maxRecDepth 20000 in
theorem ggX6_speed_X6_layOut : GoodIn wsX6_speed wsX6_layOut := goodIn_r _ [7, 8, 9, 10, 1, 2, 11, 12, 13, 14, 15, 6, 16, 17, 18, 19, 20, 21, 22, 23, 24, 25, 26, 27, 28, 29, 30, 31, 32, 33, 34, 35, 36, 37, 38, 39, 40, 41, 42, 43, 56, 57, 58, 59, 60, 61, 62, 63, 64, 65, 66, 67, 68, 69, 70, 71, 72, 73, 74, 75, 76] (by decide +kernel) (by decide +kernel)
set_option maxRecDepth 20000 in
theorem gX6_speed_X6_layOut : GoodIn wsX6_speed (wsV RX6 156 RX6 yX6_layOut wsX6_layOut) := goodIn_app (goodIn_of _ (by decide +kernel)) ggX6_speed_X6_layOut
set_option maxRecDepth 20000 in
theorem ggX6_speed_X6_isPeg : GoodIn wsX6_speed wsX6_isPeg := goodIn_r _ [47, 10, 48, 49, 6, 50, 56, 57, 58, 59, 60, 61, 62, 63, 64, 65, 66, 67, 68, 69, 70, 71, 72, 73, 74, 75, 76] (by decide +kernel) (by decide +kernel)
set_option maxRecDepth 20000 in
theorem gX6_speed_X6_isPeg : GoodIn wsX6_speed (wsV RX6 121 RX6 yX6_isPeg wsX6_isPeg) := goodIn_app (goodIn_of _ (by decide +kernel)) ggX6_speed_X6_isPeg
set_option maxRecDepth 20000 in
theorem ggX6_speed_X6_in : GoodIn wsX6_speed wsX6_in := goodIn_r _ [50] (by decide +kernel) (by decide +kernel)
set_option maxRecDepth 20000 in
theorem gX6_speed_X6_in : GoodIn wsX6_speed (va_wsS RX6 46 yX6_in wsX6_in) := goodIn_app (goodIn_of _ (by decide +kernel)) ggX6_speed_X6_in
set_option maxRecDepth 20000 in
theorem ggX6_speed_X6_holds : GoodIn wsX6_speed wsX6_holds := goodIn_r _ [54, 55, 56, 57, 58, 59, 60, 61, 62, 63, 64, 65, 66, 67, 68, 69, 70, 71, 72, 73, 74, 75, 76] (by decide +kernel) (by decide +kernel)
set_option maxRecDepth 20000 in
theorem gX6_speed_X6_holds : GoodIn wsX6_speed (wsV RX6 111 RX6 yX6_holds wsX6_holds) := goodIn_app (goodIn_of _ (by decide +kernel)) ggX6_speed_X6_holds
theorem dX6_speed_0 : decode cX6_speed 0 = .ok (.aload_n 0, 1) := by decide +kernel
theorem dX6_speed_1 : decode cX6_speed 1 = .ok (.invokevirtual 156, 3) := by decide +kernel
theorem dX6_speed_4 : decode cX6_speed 4 = .ok (.aload_n 0, 1) := by decide +kernel
theorem dX6_speed_5 : decode cX6_speed 5 = .ok (.aload_n 0, 1) := by decide +kernel
theorem dX6_speed_6 : decode cX6_speed 6 = .ok (.iload_n 1, 1) := by decide +kernel
theorem dX6_speed_7 : decode cX6_speed 7 = .ok (.invokevirtual 121, 3) := by decide +kernel
theorem dX6_speed_10 : decode cX6_speed 10 = .ok (.ifCond .ne 7, 3) := by decide +kernel
theorem dX6_speed_13 : decode cX6_speed 13 = .ok (.iconst 1, 1) := by decide +kernel
theorem dX6_speed_14 : decode cX6_speed 14 = .ok (.goto 17, 3) := by decide +kernel
theorem dX6_speed_17 : decode cX6_speed 17 = .ok (.iload_n 2, 1) := by decide +kernel
theorem dX6_speed_18 : decode cX6_speed 18 = .ok (.iconst 0, 1) := by decide +kernel
theorem dX6_speed_19 : decode cX6_speed 19 = .ok (.iconst 1, 1) := by decide +kernel
theorem dX6_speed_20 : decode cX6_speed 20 = .ok (.invokestatic 46, 3) := by decide +kernel
theorem dX6_speed_23 : decode cX6_speed 23 = .ok (.ifCond .ne 7, 3) := by decide +kernel
theorem dX6_speed_26 : decode cX6_speed 26 = .ok (.iconst 2, 1) := by decide +kernel
theorem dX6_speed_27 : decode cX6_speed 27 = .ok (.goto 4, 3) := by decide +kernel
theorem dX6_speed_30 : decode cX6_speed 30 = .ok (.iconst 0, 1) := by decide +kernel
theorem dX6_speed_31 : decode cX6_speed 31 = .ok (.invokevirtual 111, 3) := by decide +kernel
theorem dX6_speed_34 : decode cX6_speed 34 = .ok (.ifCond .eq 25, 3) := by decide +kernel
theorem dX6_speed_37 : decode cX6_speed 37 = .ok (.iload_n 2, 1) := by decide +kernel
theorem dX6_speed_38 : decode cX6_speed 38 = .ok (.ifCond .ne 12, 3) := by decide +kernel
theorem dX6_speed_41 : decode cX6_speed 41 = .ok (.aload_n 0, 1) := by decide +kernel
theorem dX6_speed_42 : decode cX6_speed 42 = .ok (.getfield 22, 3) := by decide +kernel
theorem dX6_speed_45 : decode cX6_speed 45 = .ok (.iload_n 1, 1) := by decide +kernel
theorem dX6_speed_46 : decode cX6_speed 46 = .ok (.laload, 1) := by decide +kernel
theorem dX6_speed_47 : decode cX6_speed 47 = .ok (.goto 13, 3) := by decide +kernel
theorem dX6_speed_50 : decode cX6_speed 50 = .ok (.aload_n 0, 1) := by decide +kernel
theorem dX6_speed_51 : decode cX6_speed 51 = .ok (.getfield 26, 3) := by decide +kernel
theorem dX6_speed_54 : decode cX6_speed 54 = .ok (.iload_n 1, 1) := by decide +kernel
theorem dX6_speed_55 : decode cX6_speed 55 = .ok (.laload, 1) := by decide +kernel
theorem dX6_speed_56 : decode cX6_speed 56 = .ok (.goto 4, 3) := by decide +kernel
theorem dX6_speed_59 : decode cX6_speed 59 = .ok (.lconst 0, 1) := by decide +kernel
theorem dX6_speed_60 : decode cX6_speed 60 = .ok (.lreturn, 1) := by decide +kernel
set_option maxRecDepth 20000 in
theorem ggX6_meshes_X6_isPeg : GoodIn wsX6_meshes wsX6_isPeg := goodIn_r _ [5, 6, 7, 8, 4, 9, 42, 43, 44, 45, 46, 47, 48, 49, 50, 51, 52, 53, 54, 55, 56, 57, 58, 59, 60, 61, 62] (by decide +kernel) (by decide +kernel)
set_option maxRecDepth 20000 in
theorem gX6_meshes_X6_isPeg : GoodIn wsX6_meshes (wsV RX6 121 RX6 yX6_isPeg wsX6_isPeg) := goodIn_app (goodIn_of _ (by decide +kernel)) ggX6_meshes_X6_isPeg
set_option maxRecDepth 20000 in
theorem ggX6_meshes_X6_holds : GoodIn wsX6_meshes wsX6_holds := goodIn_r _ [13, 14, 42, 43, 44, 45, 46, 47, 48, 49, 50, 51, 52, 53, 54, 55, 56, 57, 58, 59, 60, 61, 62] (by decide +kernel) (by decide +kernel)
set_option maxRecDepth 20000 in
theorem gX6_meshes_X6_holds : GoodIn wsX6_meshes (wsV RX6 111 RX6 yX6_holds wsX6_holds) := goodIn_app (goodIn_of _ (by decide +kernel)) ggX6_meshes_X6_holds
set_option maxRecDepth 20000 in
theorem ggX6_meshes_X6_meshed : GoodIn wsX6_meshes wsX6_meshed := goodIn_r _ [18, 19, 20, 21, 4, 22, 23, 24, 25, 26, 6, 27, 28, 29, 30, 31, 32, 33, 34, 35, 36, 37, 38, 39, 40, 41, 42, 43, 44, 45, 46, 47, 48, 49, 50, 51, 52, 53, 54, 55, 56, 57, 58, 59, 60, 61, 62] (by decide +kernel) (by decide +kernel)
set_option maxRecDepth 20000 in
theorem gX6_meshes_X6_meshed : GoodIn wsX6_meshes (wsV RX6 73 RX6 yX6_meshed wsX6_meshed) := goodIn_app (goodIn_of _ (by decide +kernel)) ggX6_meshes_X6_meshed
theorem dX6_meshes_0 : decode cX6_meshes 0 = .ok (.aload_n 0, 1) := by decide +kernel
theorem dX6_meshes_1 : decode cX6_meshes 1 = .ok (.aload_n 0, 1) := by decide +kernel
theorem dX6_meshes_2 : decode cX6_meshes 2 = .ok (.iload_n 1, 1) := by decide +kernel
theorem dX6_meshes_3 : decode cX6_meshes 3 = .ok (.invokevirtual 121, 3) := by decide +kernel
theorem dX6_meshes_6 : decode cX6_meshes 6 = .ok (.ifCond .eq 15, 3) := by decide +kernel
theorem dX6_meshes_9 : decode cX6_meshes 9 = .ok (.aload_n 0, 1) := by decide +kernel
theorem dX6_meshes_10 : decode cX6_meshes 10 = .ok (.iload_n 2, 1) := by decide +kernel
theorem dX6_meshes_11 : decode cX6_meshes 11 = .ok (.invokevirtual 121, 3) := by decide +kernel
theorem dX6_meshes_14 : decode cX6_meshes 14 = .ok (.ifCond .eq 7, 3) := by decide +kernel
theorem dX6_meshes_17 : decode cX6_meshes 17 = .ok (.iconst 0, 1) := by decide +kernel
theorem dX6_meshes_18 : decode cX6_meshes 18 = .ok (.goto 4, 3) := by decide +kernel
theorem dX6_meshes_21 : decode cX6_meshes 21 = .ok (.iconst 1, 1) := by decide +kernel
theorem dX6_meshes_22 : decode cX6_meshes 22 = .ok (.invokevirtual 111, 3) := by decide +kernel
theorem dX6_meshes_25 : decode cX6_meshes 25 = .ok (.ifCond .eq 12, 3) := by decide +kernel
theorem dX6_meshes_28 : decode cX6_meshes 28 = .ok (.aload_n 0, 1) := by decide +kernel
theorem dX6_meshes_29 : decode cX6_meshes 29 = .ok (.iload_n 1, 1) := by decide +kernel
theorem dX6_meshes_30 : decode cX6_meshes 30 = .ok (.iload_n 2, 1) := by decide +kernel
theorem dX6_meshes_31 : decode cX6_meshes 31 = .ok (.invokevirtual 73, 3) := by decide +kernel
theorem dX6_meshes_34 : decode cX6_meshes 34 = .ok (.goto 4, 3) := by decide +kernel
theorem dX6_meshes_37 : decode cX6_meshes 37 = .ok (.iconst 0, 1) := by decide +kernel
theorem dX6_meshes_38 : decode cX6_meshes 38 = .ok (.ireturn, 1) := by decide +kernel
set_option maxRecDepth 20000 in
theorem ggX6_layTrain_X6_meshed : GoodIn wsX6_layTrain wsX6_meshed := goodIn_r _ [9, 10, 11, 12, 8, 13, 14, 15, 16, 17, 2, 18, 19, 20, 21, 22, 23, 24, 25, 26, 27, 28, 29, 30, 31, 32, 48, 49, 50, 51, 52, 53, 54, 55, 56, 57, 58, 59, 60, 61, 62, 63, 64, 65, 66, 67, 68] (by decide +kernel) (by decide +kernel)
set_option maxRecDepth 20000 in
theorem gX6_layTrain_X6_meshed : GoodIn wsX6_layTrain (wsV RX6 73 RX6 yX6_meshed wsX6_meshed) := goodIn_app (goodIn_of _ (by decide +kernel)) ggX6_layTrain_X6_meshed
set_option maxRecDepth 20000 in
theorem ggX6_layTrain_X6_layRatio : GoodIn wsX6_layTrain wsX6_layRatio := goodIn_r _ [36, 3, 37, 38, 39, 4, 10, 11, 12, 8, 13, 14, 15, 16, 17, 2, 18, 19, 20, 21, 22, 23, 24, 25, 26, 27, 28, 29, 30, 31, 32, 40, 41, 42, 43, 44, 45, 46, 47, 48, 49, 50, 51, 52, 53, 54, 55, 56, 57, 58, 59, 60, 61, 62, 63, 64, 65, 66, 67, 68] (by decide +kernel) (by decide +kernel)
set_option maxRecDepth 20000 in
theorem gX6_layTrain_X6_layRatio : GoodIn wsX6_layTrain (wsV RX6 198 RX6 yX6_layRatio wsX6_layRatio) := goodIn_app (goodIn_of _ (by decide +kernel)) ggX6_layTrain_X6_layRatio
theorem dX6_layTrain_0 : decode cX6_layTrain 0 = .ok (.iconst 0, 1) := by decide +kernel
theorem dX6_layTrain_1 : decode cX6_layTrain 1 = .ok (.istore_n 3, 1) := by decide +kernel
theorem dX6_layTrain_2 : decode cX6_layTrain 2 = .ok (.iload_n 3, 1) := by decide +kernel
theorem dX6_layTrain_3 : decode cX6_layTrain 3 = .ok (.bipush 9, 2) := by decide +kernel
theorem dX6_layTrain_5 : decode cX6_layTrain 5 = .ok (.if_icmp .ge 25, 3) := by decide +kernel
theorem dX6_layTrain_8 : decode cX6_layTrain 8 = .ok (.aload_n 0, 1) := by decide +kernel
theorem dX6_layTrain_9 : decode cX6_layTrain 9 = .ok (.getfield 36, 3) := by decide +kernel
theorem dX6_layTrain_12 : decode cX6_layTrain 12 = .ok (.iload_n 3, 1) := by decide +kernel
theorem dX6_layTrain_13 : decode cX6_layTrain 13 = .ok (.iload_n 3, 1) := by decide +kernel
theorem dX6_layTrain_14 : decode cX6_layTrain 14 = .ok (.iload_n 2, 1) := by decide +kernel
theorem dX6_layTrain_15 : decode cX6_layTrain 15 = .ok (.if_icmp .ne 7, 3) := by decide +kernel
theorem dX6_layTrain_18 : decode cX6_layTrain 18 = .ok (.iconst 0, 1) := by decide +kernel
theorem dX6_layTrain_19 : decode cX6_layTrain 19 = .ok (.goto 4, 3) := by decide +kernel
theorem dX6_layTrain_22 : decode cX6_layTrain 22 = .ok (.iconst (-1), 1) := by decide +kernel
theorem dX6_layTrain_23 : decode cX6_layTrain 23 = .ok (.iastore, 1) := by decide +kernel
theorem dX6_layTrain_24 : decode cX6_layTrain 24 = .ok (.iinc 3 1, 3) := by decide +kernel
theorem dX6_layTrain_27 : decode cX6_layTrain 27 = .ok (.goto (-25), 3) := by decide +kernel
theorem dX6_layTrain_30 : decode cX6_layTrain 30 = .ok (.iconst 0, 1) := by decide +kernel
theorem dX6_layTrain_31 : decode cX6_layTrain 31 = .ok (.istore_n 3, 1) := by decide +kernel
theorem dX6_layTrain_32 : decode cX6_layTrain 32 = .ok (.iload_n 3, 1) := by decide +kernel
theorem dX6_layTrain_33 : decode cX6_layTrain 33 = .ok (.bipush 9, 2) := by decide +kernel
theorem dX6_layTrain_35 : decode cX6_layTrain 35 = .ok (.if_icmp .ge 123, 3) := by decide +kernel
theorem dX6_layTrain_38 : decode cX6_layTrain 38 = .ok (.iconst 0, 1) := by decide +kernel
theorem dX6_layTrain_39 : decode cX6_layTrain 39 = .ok (.istore 4, 2) := by decide +kernel
theorem dX6_layTrain_41 : decode cX6_layTrain 41 = .ok (.iload 4, 2) := by decide +kernel
theorem dX6_layTrain_43 : decode cX6_layTrain 43 = .ok (.aload_n 0, 1) := by decide +kernel
theorem dX6_layTrain_44 : decode cX6_layTrain 44 = .ok (.getfield 7, 3) := by decide +kernel
theorem dX6_layTrain_47 : decode cX6_layTrain 47 = .ok (.iconst 0, 1) := by decide +kernel
theorem dX6_layTrain_48 : decode cX6_layTrain 48 = .ok (.iaload, 1) := by decide +kernel
theorem dX6_layTrain_49 : decode cX6_layTrain 49 = .ok (.aload_n 0, 1) := by decide +kernel
theorem dX6_layTrain_50 : decode cX6_layTrain 50 = .ok (.getfield 7, 3) := by decide +kernel
theorem dX6_layTrain_53 : decode cX6_layTrain 53 = .ok (.iconst 0, 1) := by decide +kernel
theorem dX6_layTrain_54 : decode cX6_layTrain 54 = .ok (.iaload, 1) := by decide +kernel
theorem dX6_layTrain_55 : decode cX6_layTrain 55 = .ok (.imul, 1) := by decide +kernel
theorem dX6_layTrain_56 : decode cX6_layTrain 56 = .ok (.if_icmp .ge 96, 3) := by decide +kernel
theorem dX6_layTrain_59 : decode cX6_layTrain 59 = .ok (.iload 4, 2) := by decide +kernel
theorem dX6_layTrain_61 : decode cX6_layTrain 61 = .ok (.aload_n 0, 1) := by decide +kernel
theorem dX6_layTrain_62 : decode cX6_layTrain 62 = .ok (.getfield 7, 3) := by decide +kernel
theorem dX6_layTrain_65 : decode cX6_layTrain 65 = .ok (.iconst 0, 1) := by decide +kernel
theorem dX6_layTrain_66 : decode cX6_layTrain 66 = .ok (.iaload, 1) := by decide +kernel
theorem dX6_layTrain_67 : decode cX6_layTrain 67 = .ok (.idiv, 1) := by decide +kernel
theorem dX6_layTrain_68 : decode cX6_layTrain 68 = .ok (.istore 5, 2) := by decide +kernel
theorem dX6_layTrain_70 : decode cX6_layTrain 70 = .ok (.iload 4, 2) := by decide +kernel
theorem dX6_layTrain_72 : decode cX6_layTrain 72 = .ok (.aload_n 0, 1) := by decide +kernel
theorem dX6_layTrain_73 : decode cX6_layTrain 73 = .ok (.getfield 7, 3) := by decide +kernel
theorem dX6_layTrain_76 : decode cX6_layTrain 76 = .ok (.iconst 0, 1) := by decide +kernel
theorem dX6_layTrain_77 : decode cX6_layTrain 77 = .ok (.iaload, 1) := by decide +kernel
theorem dX6_layTrain_78 : decode cX6_layTrain 78 = .ok (.irem, 1) := by decide +kernel
theorem dX6_layTrain_79 : decode cX6_layTrain 79 = .ok (.istore 6, 2) := by decide +kernel
theorem dX6_layTrain_81 : decode cX6_layTrain 81 = .ok (.aload_n 0, 1) := by decide +kernel
theorem dX6_layTrain_82 : decode cX6_layTrain 82 = .ok (.getfield 36, 3) := by decide +kernel
theorem dX6_layTrain_85 : decode cX6_layTrain 85 = .ok (.iload 5, 2) := by decide +kernel
theorem dX6_layTrain_87 : decode cX6_layTrain 87 = .ok (.iaload, 1) := by decide +kernel
theorem dX6_layTrain_88 : decode cX6_layTrain 88 = .ok (.iload_n 3, 1) := by decide +kernel
theorem dX6_layTrain_89 : decode cX6_layTrain 89 = .ok (.if_icmp .ne 29, 3) := by decide +kernel
theorem dX6_layTrain_92 : decode cX6_layTrain 92 = .ok (.aload_n 0, 1) := by decide +kernel
theorem dX6_layTrain_93 : decode cX6_layTrain 93 = .ok (.getfield 36, 3) := by decide +kernel
theorem dX6_layTrain_96 : decode cX6_layTrain 96 = .ok (.iload 6, 2) := by decide +kernel
theorem dX6_layTrain_98 : decode cX6_layTrain 98 = .ok (.iaload, 1) := by decide +kernel
theorem dX6_layTrain_99 : decode cX6_layTrain 99 = .ok (.iconst (-1), 1) := by decide +kernel
theorem dX6_layTrain_100 : decode cX6_layTrain 100 = .ok (.if_icmp .ne 18, 3) := by decide +kernel
theorem dX6_layTrain_103 : decode cX6_layTrain 103 = .ok (.aload_n 0, 1) := by decide +kernel
theorem dX6_layTrain_104 : decode cX6_layTrain 104 = .ok (.iload 5, 2) := by decide +kernel
theorem dX6_layTrain_106 : decode cX6_layTrain 106 = .ok (.iload 6, 2) := by decide +kernel
theorem dX6_layTrain_108 : decode cX6_layTrain 108 = .ok (.invokevirtual 73, 3) := by decide +kernel
theorem dX6_layTrain_111 : decode cX6_layTrain 111 = .ok (.ifCond .le 7, 3) := by decide +kernel
theorem dX6_layTrain_114 : decode cX6_layTrain 114 = .ok (.iconst 1, 1) := by decide +kernel
theorem dX6_layTrain_115 : decode cX6_layTrain 115 = .ok (.goto 4, 3) := by decide +kernel
theorem dX6_layTrain_118 : decode cX6_layTrain 118 = .ok (.iconst 0, 1) := by decide +kernel
theorem dX6_layTrain_119 : decode cX6_layTrain 119 = .ok (.istore 7, 2) := by decide +kernel
theorem dX6_layTrain_121 : decode cX6_layTrain 121 = .ok (.aload_n 0, 1) := by decide +kernel
theorem dX6_layTrain_122 : decode cX6_layTrain 122 = .ok (.getfield 36, 3) := by decide +kernel
theorem dX6_layTrain_125 : decode cX6_layTrain 125 = .ok (.iload 6, 2) := by decide +kernel
theorem dX6_layTrain_127 : decode cX6_layTrain 127 = .ok (.iload 7, 2) := by decide +kernel
theorem dX6_layTrain_129 : decode cX6_layTrain 129 = .ok (.ifCond .eq 9, 3) := by decide +kernel
theorem dX6_layTrain_132 : decode cX6_layTrain 132 = .ok (.iload_n 3, 1) := by decide +kernel
theorem dX6_layTrain_133 : decode cX6_layTrain 133 = .ok (.iconst 1, 1) := by decide +kernel
theorem dX6_layTrain_134 : decode cX6_layTrain 134 = .ok (.iadd, 1) := by decide +kernel
theorem dX6_layTrain_135 : decode cX6_layTrain 135 = .ok (.goto 10, 3) := by decide +kernel
theorem dX6_layTrain_138 : decode cX6_layTrain 138 = .ok (.aload_n 0, 1) := by decide +kernel
theorem dX6_layTrain_139 : decode cX6_layTrain 139 = .ok (.getfield 36, 3) := by decide +kernel
theorem dX6_layTrain_142 : decode cX6_layTrain 142 = .ok (.iload 6, 2) := by decide +kernel
theorem dX6_layTrain_144 : decode cX6_layTrain 144 = .ok (.iaload, 1) := by decide +kernel
theorem dX6_layTrain_145 : decode cX6_layTrain 145 = .ok (.iastore, 1) := by decide +kernel
theorem dX6_layTrain_146 : decode cX6_layTrain 146 = .ok (.iinc 4 1, 3) := by decide +kernel
theorem dX6_layTrain_149 : decode cX6_layTrain 149 = .ok (.goto (-108), 3) := by decide +kernel
theorem dX6_layTrain_152 : decode cX6_layTrain 152 = .ok (.iinc 3 1, 3) := by decide +kernel
theorem dX6_layTrain_155 : decode cX6_layTrain 155 = .ok (.goto (-123), 3) := by decide +kernel
theorem dX6_layTrain_158 : decode cX6_layTrain 158 = .ok (.aload_n 0, 1) := by decide +kernel
theorem dX6_layTrain_159 : decode cX6_layTrain 159 = .ok (.aload_n 0, 1) := by decide +kernel
theorem dX6_layTrain_160 : decode cX6_layTrain 160 = .ok (.getfield 36, 3) := by decide +kernel
theorem dX6_layTrain_163 : decode cX6_layTrain 163 = .ok (.iload_n 1, 1) := by decide +kernel
theorem dX6_layTrain_164 : decode cX6_layTrain 164 = .ok (.iaload, 1) := by decide +kernel
theorem dX6_layTrain_165 : decode cX6_layTrain 165 = .ok (.iconst 1, 1) := by decide +kernel
theorem dX6_layTrain_166 : decode cX6_layTrain 166 = .ok (.iadd, 1) := by decide +kernel
theorem dX6_layTrain_167 : decode cX6_layTrain 167 = .ok (.putfield 195, 3) := by decide +kernel
theorem dX6_layTrain_170 : decode cX6_layTrain 170 = .ok (.aload_n 0, 1) := by decide +kernel
theorem dX6_layTrain_171 : decode cX6_layTrain 171 = .ok (.getfield 39, 3) := by decide +kernel
theorem dX6_layTrain_174 : decode cX6_layTrain 174 = .ok (.iconst 0, 1) := by decide +kernel
theorem dX6_layTrain_175 : decode cX6_layTrain 175 = .ok (.iload_n 1, 1) := by decide +kernel
theorem dX6_layTrain_176 : decode cX6_layTrain 176 = .ok (.iastore, 1) := by decide +kernel
theorem dX6_layTrain_177 : decode cX6_layTrain 177 = .ok (.iconst 1, 1) := by decide +kernel
theorem dX6_layTrain_178 : decode cX6_layTrain 178 = .ok (.istore_n 3, 1) := by decide +kernel
theorem dX6_layTrain_179 : decode cX6_layTrain 179 = .ok (.iload_n 3, 1) := by decide +kernel
theorem dX6_layTrain_180 : decode cX6_layTrain 180 = .ok (.aload_n 0, 1) := by decide +kernel
theorem dX6_layTrain_181 : decode cX6_layTrain 181 = .ok (.getfield 195, 3) := by decide +kernel
theorem dX6_layTrain_184 : decode cX6_layTrain 184 = .ok (.if_icmp .ge 92, 3) := by decide +kernel
theorem dX6_layTrain_187 : decode cX6_layTrain 187 = .ok (.iconst (-1), 1) := by decide +kernel
theorem dX6_layTrain_188 : decode cX6_layTrain 188 = .ok (.istore 4, 2) := by decide +kernel
theorem dX6_layTrain_190 : decode cX6_layTrain 190 = .ok (.aload_n 0, 1) := by decide +kernel
theorem dX6_layTrain_191 : decode cX6_layTrain 191 = .ok (.getfield 7, 3) := by decide +kernel
theorem dX6_layTrain_194 : decode cX6_layTrain 194 = .ok (.iconst 0, 1) := by decide +kernel
theorem dX6_layTrain_195 : decode cX6_layTrain 195 = .ok (.iaload, 1) := by decide +kernel
theorem dX6_layTrain_196 : decode cX6_layTrain 196 = .ok (.iconst 1, 1) := by decide +kernel
theorem dX6_layTrain_197 : decode cX6_layTrain 197 = .ok (.isub, 1) := by decide +kernel
theorem dX6_layTrain_198 : decode cX6_layTrain 198 = .ok (.istore 5, 2) := by decide +kernel
theorem dX6_layTrain_200 : decode cX6_layTrain 200 = .ok (.iload 5, 2) := by decide +kernel
theorem dX6_layTrain_202 : decode cX6_layTrain 202 = .ok (.ifCond .lt 60, 3) := by decide +kernel
theorem dX6_layTrain_205 : decode cX6_layTrain 205 = .ok (.aload_n 0, 1) := by decide +kernel
theorem dX6_layTrain_206 : decode cX6_layTrain 206 = .ok (.getfield 36, 3) := by decide +kernel
theorem dX6_layTrain_209 : decode cX6_layTrain 209 = .ok (.iload 5, 2) := by decide +kernel
theorem dX6_layTrain_211 : decode cX6_layTrain 211 = .ok (.iaload, 1) := by decide +kernel
theorem dX6_layTrain_212 : decode cX6_layTrain 212 = .ok (.aload_n 0, 1) := by decide +kernel
theorem dX6_layTrain_213 : decode cX6_layTrain 213 = .ok (.getfield 36, 3) := by decide +kernel
theorem dX6_layTrain_216 : decode cX6_layTrain 216 = .ok (.aload_n 0, 1) := by decide +kernel
theorem dX6_layTrain_217 : decode cX6_layTrain 217 = .ok (.getfield 39, 3) := by decide +kernel
theorem dX6_layTrain_220 : decode cX6_layTrain 220 = .ok (.iload_n 3, 1) := by decide +kernel
theorem dX6_layTrain_221 : decode cX6_layTrain 221 = .ok (.iconst 1, 1) := by decide +kernel
theorem dX6_layTrain_222 : decode cX6_layTrain 222 = .ok (.isub, 1) := by decide +kernel
theorem dX6_layTrain_223 : decode cX6_layTrain 223 = .ok (.iaload, 1) := by decide +kernel
theorem dX6_layTrain_224 : decode cX6_layTrain 224 = .ok (.iaload, 1) := by decide +kernel
theorem dX6_layTrain_225 : decode cX6_layTrain 225 = .ok (.iconst 1, 1) := by decide +kernel
theorem dX6_layTrain_226 : decode cX6_layTrain 226 = .ok (.isub, 1) := by decide +kernel
theorem dX6_layTrain_227 : decode cX6_layTrain 227 = .ok (.if_icmp .ne 25, 3) := by decide +kernel
theorem dX6_layTrain_230 : decode cX6_layTrain 230 = .ok (.aload_n 0, 1) := by decide +kernel
theorem dX6_layTrain_231 : decode cX6_layTrain 231 = .ok (.aload_n 0, 1) := by decide +kernel
theorem dX6_layTrain_232 : decode cX6_layTrain 232 = .ok (.getfield 39, 3) := by decide +kernel
theorem dX6_layTrain_235 : decode cX6_layTrain 235 = .ok (.iload_n 3, 1) := by decide +kernel
theorem dX6_layTrain_236 : decode cX6_layTrain 236 = .ok (.iconst 1, 1) := by decide +kernel
theorem dX6_layTrain_237 : decode cX6_layTrain 237 = .ok (.isub, 1) := by decide +kernel
theorem dX6_layTrain_238 : decode cX6_layTrain 238 = .ok (.iaload, 1) := by decide +kernel
theorem dX6_layTrain_239 : decode cX6_layTrain 239 = .ok (.iload 5, 2) := by decide +kernel
theorem dX6_layTrain_241 : decode cX6_layTrain 241 = .ok (.invokevirtual 73, 3) := by decide +kernel
theorem dX6_layTrain_244 : decode cX6_layTrain 244 = .ok (.ifCond .le 8, 3) := by decide +kernel
theorem dX6_layTrain_247 : decode cX6_layTrain 247 = .ok (.iload 5, 2) := by decide +kernel
theorem dX6_layTrain_249 : decode cX6_layTrain 249 = .ok (.goto 5, 3) := by decide +kernel
theorem dX6_layTrain_252 : decode cX6_layTrain 252 = .ok (.iload 4, 2) := by decide +kernel
theorem dX6_layTrain_254 : decode cX6_layTrain 254 = .ok (.istore 4, 2) := by decide +kernel
theorem dX6_layTrain_256 : decode cX6_layTrain 256 = .ok (.iinc 5 (-1), 3) := by decide +kernel
theorem dX6_layTrain_259 : decode cX6_layTrain 259 = .ok (.goto (-59), 3) := by decide +kernel
theorem dX6_layTrain_262 : decode cX6_layTrain 262 = .ok (.aload_n 0, 1) := by decide +kernel
theorem dX6_layTrain_263 : decode cX6_layTrain 263 = .ok (.getfield 39, 3) := by decide +kernel
theorem dX6_layTrain_266 : decode cX6_layTrain 266 = .ok (.iload_n 3, 1) := by decide +kernel
theorem dX6_layTrain_267 : decode cX6_layTrain 267 = .ok (.iload 4, 2) := by decide +kernel
theorem dX6_layTrain_269 : decode cX6_layTrain 269 = .ok (.iastore, 1) := by decide +kernel
theorem dX6_layTrain_270 : decode cX6_layTrain 270 = .ok (.iinc 3 1, 3) := by decide +kernel
theorem dX6_layTrain_273 : decode cX6_layTrain 273 = .ok (.goto (-94), 3) := by decide +kernel
theorem dX6_layTrain_276 : decode cX6_layTrain 276 = .ok (.aload_n 0, 1) := by decide +kernel
theorem dX6_layTrain_277 : decode cX6_layTrain 277 = .ok (.invokevirtual 198, 3) := by decide +kernel
theorem dX6_layTrain_280 : decode cX6_layTrain 280 = .ok (.return_, 1) := by decide +kernel
set_option maxRecDepth 20000 in
theorem ggX6_layRatio_X6_meshOn : GoodIn wsX6_layRatio wsX6_meshOn := goodIn_r _ [10, 11, 12, 13, 9, 14, 15, 16, 17, 18, 19, 20, 21, 22, 23, 24, 25, 26, 27, 28, 29, 30, 39, 40, 41, 42, 43, 44, 45, 46, 47, 48, 49, 50, 51, 52, 53, 54, 55, 56, 57, 58, 59] (by decide +kernel) (by decide +kernel)
set_option maxRecDepth 20000 in
theorem gX6_layRatio_X6_meshOn : GoodIn wsX6_layRatio (wsV RX6 70 RX6 yX6_meshOn wsX6_meshOn) := goodIn_app (goodIn_of _ (by decide +kernel)) ggX6_layRatio_X6_meshOn
set_option maxRecDepth 20000 in
theorem ggX6_layRatio_X6_goOn : GoodIn wsX6_layRatio wsX6_goOn := goodIn_r _ [34, 35, 2, 3, 16, 17, 18, 9, 19, 15, 24, 25, 26, 27, 36, 37, 38, 39, 40, 41, 42, 43, 44, 45, 46, 47, 48, 49, 50, 51, 52, 53, 54, 55, 56, 57, 58, 59] (by decide +kernel) (by decide +kernel)
set_option maxRecDepth 20000 in
theorem gX6_layRatio_X6_goOn : GoodIn wsX6_layRatio (wsV RX6 93 RX6 yX6_goOn wsX6_goOn) := goodIn_app (goodIn_of _ (by decide +kernel)) ggX6_layRatio_X6_goOn
theorem dX6_layRatio_0 : decode cX6_layRatio 0 = .ok (.aload_n 0, 1) := by decide +kernel
theorem dX6_layRatio_1 : decode cX6_layRatio 1 = .ok (.aload_n 0, 1) := by decide +kernel
theorem dX6_layRatio_2 : decode cX6_layRatio 2 = .ok (.getfield 195, 3) := by decide +kernel
theorem dX6_layRatio_5 : decode cX6_layRatio 5 = .ok (.ifCond .le 7, 3) := by decide +kernel
theorem dX6_layRatio_8 : decode cX6_layRatio 8 = .ok (.lconst 1, 1) := by decide +kernel
theorem dX6_layRatio_9 : decode cX6_layRatio 9 = .ok (.goto 4, 3) := by decide +kernel
theorem dX6_layRatio_12 : decode cX6_layRatio 12 = .ok (.lconst 0, 1) := by decide +kernel
theorem dX6_layRatio_13 : decode cX6_layRatio 13 = .ok (.putfield 82, 3) := by decide +kernel
theorem dX6_layRatio_16 : decode cX6_layRatio 16 = .ok (.aload_n 0, 1) := by decide +kernel
theorem dX6_layRatio_17 : decode cX6_layRatio 17 = .ok (.lconst 1, 1) := by decide +kernel
theorem dX6_layRatio_18 : decode cX6_layRatio 18 = .ok (.putfield 86, 3) := by decide +kernel
theorem dX6_layRatio_21 : decode cX6_layRatio 21 = .ok (.aload_n 0, 1) := by decide +kernel
theorem dX6_layRatio_22 : decode cX6_layRatio 22 = .ok (.iconst 0, 1) := by decide +kernel
theorem dX6_layRatio_23 : decode cX6_layRatio 23 = .ok (.putfield 201, 3) := by decide +kernel
theorem dX6_layRatio_26 : decode cX6_layRatio 26 = .ok (.iconst (-1), 1) := by decide +kernel
theorem dX6_layRatio_27 : decode cX6_layRatio 27 = .ok (.istore_n 1, 1) := by decide +kernel
theorem dX6_layRatio_28 : decode cX6_layRatio 28 = .ok (.iconst 1, 1) := by decide +kernel
theorem dX6_layRatio_29 : decode cX6_layRatio 29 = .ok (.istore_n 2, 1) := by decide +kernel
theorem dX6_layRatio_30 : decode cX6_layRatio 30 = .ok (.iload_n 2, 1) := by decide +kernel
theorem dX6_layRatio_31 : decode cX6_layRatio 31 = .ok (.aload_n 0, 1) := by decide +kernel
theorem dX6_layRatio_32 : decode cX6_layRatio 32 = .ok (.getfield 195, 3) := by decide +kernel
theorem dX6_layRatio_35 : decode cX6_layRatio 35 = .ok (.if_icmp .ge 85, 3) := by decide +kernel
theorem dX6_layRatio_38 : decode cX6_layRatio 38 = .ok (.aload_n 0, 1) := by decide +kernel
theorem dX6_layRatio_39 : decode cX6_layRatio 39 = .ok (.aload_n 0, 1) := by decide +kernel
theorem dX6_layRatio_40 : decode cX6_layRatio 40 = .ok (.getfield 39, 3) := by decide +kernel
theorem dX6_layRatio_43 : decode cX6_layRatio 43 = .ok (.iload_n 2, 1) := by decide +kernel
theorem dX6_layRatio_44 : decode cX6_layRatio 44 = .ok (.iconst 1, 1) := by decide +kernel
theorem dX6_layRatio_45 : decode cX6_layRatio 45 = .ok (.isub, 1) := by decide +kernel
theorem dX6_layRatio_46 : decode cX6_layRatio 46 = .ok (.iaload, 1) := by decide +kernel
theorem dX6_layRatio_47 : decode cX6_layRatio 47 = .ok (.aload_n 0, 1) := by decide +kernel
theorem dX6_layRatio_48 : decode cX6_layRatio 48 = .ok (.getfield 39, 3) := by decide +kernel
theorem dX6_layRatio_51 : decode cX6_layRatio 51 = .ok (.iload_n 2, 1) := by decide +kernel
theorem dX6_layRatio_52 : decode cX6_layRatio 52 = .ok (.iaload, 1) := by decide +kernel
theorem dX6_layRatio_53 : decode cX6_layRatio 53 = .ok (.iconst 0, 1) := by decide +kernel
theorem dX6_layRatio_54 : decode cX6_layRatio 54 = .ok (.invokevirtual 70, 3) := by decide +kernel
theorem dX6_layRatio_57 : decode cX6_layRatio 57 = .ok (.ifCond .eq 7, 3) := by decide +kernel
theorem dX6_layRatio_60 : decode cX6_layRatio 60 = .ok (.iconst 0, 1) := by decide +kernel
theorem dX6_layRatio_61 : decode cX6_layRatio 61 = .ok (.goto 4, 3) := by decide +kernel
theorem dX6_layRatio_64 : decode cX6_layRatio 64 = .ok (.iconst 1, 1) := by decide +kernel
theorem dX6_layRatio_65 : decode cX6_layRatio 65 = .ok (.istore_n 3, 1) := by decide +kernel
theorem dX6_layRatio_66 : decode cX6_layRatio 66 = .ok (.aload_n 0, 1) := by decide +kernel
theorem dX6_layRatio_67 : decode cX6_layRatio 67 = .ok (.aload_n 0, 1) := by decide +kernel
theorem dX6_layRatio_68 : decode cX6_layRatio 68 = .ok (.getfield 82, 3) := by decide +kernel
theorem dX6_layRatio_71 : decode cX6_layRatio 71 = .ok (.aload_n 0, 1) := by decide +kernel
theorem dX6_layRatio_72 : decode cX6_layRatio 72 = .ok (.getfield 86, 3) := by decide +kernel
theorem dX6_layRatio_75 : decode cX6_layRatio 75 = .ok (.aload_n 0, 1) := by decide +kernel
theorem dX6_layRatio_76 : decode cX6_layRatio 76 = .ok (.getfield 39, 3) := by decide +kernel
theorem dX6_layRatio_79 : decode cX6_layRatio 79 = .ok (.iload_n 2, 1) := by decide +kernel
theorem dX6_layRatio_80 : decode cX6_layRatio 80 = .ok (.iconst 1, 1) := by decide +kernel
theorem dX6_layRatio_81 : decode cX6_layRatio 81 = .ok (.isub, 1) := by decide +kernel
theorem dX6_layRatio_82 : decode cX6_layRatio 82 = .ok (.iaload, 1) := by decide +kernel
theorem dX6_layRatio_83 : decode cX6_layRatio 83 = .ok (.aload_n 0, 1) := by decide +kernel
theorem dX6_layRatio_84 : decode cX6_layRatio 84 = .ok (.getfield 39, 3) := by decide +kernel
theorem dX6_layRatio_87 : decode cX6_layRatio 87 = .ok (.iload_n 2, 1) := by decide +kernel
theorem dX6_layRatio_88 : decode cX6_layRatio 88 = .ok (.iaload, 1) := by decide +kernel
theorem dX6_layRatio_89 : decode cX6_layRatio 89 = .ok (.iload_n 3, 1) := by decide +kernel
theorem dX6_layRatio_90 : decode cX6_layRatio 90 = .ok (.invokevirtual 93, 3) := by decide +kernel
theorem dX6_layRatio_93 : decode cX6_layRatio 93 = .ok (.aload_n 0, 1) := by decide +kernel
theorem dX6_layRatio_94 : decode cX6_layRatio 94 = .ok (.dup, 1) := by decide +kernel
theorem dX6_layRatio_95 : decode cX6_layRatio 95 = .ok (.getfield 201, 3) := by decide +kernel
theorem dX6_layRatio_98 : decode cX6_layRatio 98 = .ok (.iload_n 3, 1) := by decide +kernel
theorem dX6_layRatio_99 : decode cX6_layRatio 99 = .ok (.iload_n 1, 1) := by decide +kernel
theorem dX6_layRatio_100 : decode cX6_layRatio 100 = .ok (.if_icmp .ne 7, 3) := by decide +kernel
theorem dX6_layRatio_103 : decode cX6_layRatio 103 = .ok (.iconst 1, 1) := by decide +kernel
theorem dX6_layRatio_104 : decode cX6_layRatio 104 = .ok (.goto 4, 3) := by decide +kernel
theorem dX6_layRatio_107 : decode cX6_layRatio 107 = .ok (.iconst 0, 1) := by decide +kernel
theorem dX6_layRatio_108 : decode cX6_layRatio 108 = .ok (.iadd, 1) := by decide +kernel
theorem dX6_layRatio_109 : decode cX6_layRatio 109 = .ok (.putfield 201, 3) := by decide +kernel
theorem dX6_layRatio_112 : decode cX6_layRatio 112 = .ok (.iload_n 3, 1) := by decide +kernel
theorem dX6_layRatio_113 : decode cX6_layRatio 113 = .ok (.istore_n 1, 1) := by decide +kernel
theorem dX6_layRatio_114 : decode cX6_layRatio 114 = .ok (.iinc 2 1, 3) := by decide +kernel
theorem dX6_layRatio_117 : decode cX6_layRatio 117 = .ok (.goto (-87), 3) := by decide +kernel
theorem dX6_layRatio_120 : decode cX6_layRatio 120 = .ok (.return_, 1) := by decide +kernel
set_option maxRecDepth 20000 in
theorem ggX6_trainOf_X6_layTrain : GoodIn wsX6_trainOf wsX6_layTrain := goodIn_r _ [9, 10, 11, 1, 3, 12, 13, 14, 8, 15, 16, 17, 18, 19, 20, 21, 22, 23, 24, 25, 26, 27, 28, 29, 30, 31, 32, 33, 34, 35, 36, 37, 38, 39, 40, 41, 42, 4, 43, 2, 44, 45, 46, 47, 48, 49, 50, 51, 52, 53, 54, 55, 56, 57, 58, 59, 60, 61, 62, 63, 64, 65, 66, 67, 68, 69, 70, 71, 72] (by decide +kernel) (by decide +kernel)
set_option maxRecDepth 20000 in
theorem gX6_trainOf_X6_layTrain : GoodIn wsX6_trainOf (wsV RX6 204 RX6 yX6_layTrain wsX6_layTrain) := goodIn_app (goodIn_of _ (by decide +kernel)) ggX6_trainOf_X6_layTrain
theorem dX6_trainOf_0 : decode cX6_trainOf 0 = .ok (.aload_n 0, 1) := by decide +kernel
theorem dX6_trainOf_1 : decode cX6_trainOf 1 = .ok (.iload_n 1, 1) := by decide +kernel
theorem dX6_trainOf_2 : decode cX6_trainOf 2 = .ok (.iload_n 2, 1) := by decide +kernel
theorem dX6_trainOf_3 : decode cX6_trainOf 3 = .ok (.invokevirtual 204, 3) := by decide +kernel
theorem dX6_trainOf_6 : decode cX6_trainOf 6 = .ok (.aload_n 0, 1) := by decide +kernel
theorem dX6_trainOf_7 : decode cX6_trainOf 7 = .ok (.getfield 195, 3) := by decide +kernel
theorem dX6_trainOf_10 : decode cX6_trainOf 10 = .ok (.ifCond .ne 5, 3) := by decide +kernel
theorem dX6_trainOf_13 : decode cX6_trainOf 13 = .ok (.iconst (-1), 1) := by decide +kernel
theorem dX6_trainOf_14 : decode cX6_trainOf 14 = .ok (.ireturn, 1) := by decide +kernel
theorem dX6_trainOf_15 : decode cX6_trainOf 15 = .ok (.iload_n 3, 1) := by decide +kernel
theorem dX6_trainOf_16 : decode cX6_trainOf 16 = .ok (.ifCond .ne 10, 3) := by decide +kernel
theorem dX6_trainOf_19 : decode cX6_trainOf 19 = .ok (.aload_n 0, 1) := by decide +kernel
theorem dX6_trainOf_20 : decode cX6_trainOf 20 = .ok (.getfield 195, 3) := by decide +kernel
theorem dX6_trainOf_23 : decode cX6_trainOf 23 = .ok (.goto 55, 3) := by decide +kernel
theorem dX6_trainOf_26 : decode cX6_trainOf 26 = .ok (.iload_n 3, 1) := by decide +kernel
theorem dX6_trainOf_27 : decode cX6_trainOf 27 = .ok (.iconst 1, 1) := by decide +kernel
theorem dX6_trainOf_28 : decode cX6_trainOf 28 = .ok (.if_icmp .ne 10, 3) := by decide +kernel
theorem dX6_trainOf_31 : decode cX6_trainOf 31 = .ok (.aload_n 0, 1) := by decide +kernel
theorem dX6_trainOf_32 : decode cX6_trainOf 32 = .ok (.getfield 201, 3) := by decide +kernel
theorem dX6_trainOf_35 : decode cX6_trainOf 35 = .ok (.goto 43, 3) := by decide +kernel
theorem dX6_trainOf_38 : decode cX6_trainOf 38 = .ok (.iload_n 3, 1) := by decide +kernel
theorem dX6_trainOf_39 : decode cX6_trainOf 39 = .ok (.iconst 2, 1) := by decide +kernel
theorem dX6_trainOf_40 : decode cX6_trainOf 40 = .ok (.if_icmp .ne 24, 3) := by decide +kernel
theorem dX6_trainOf_43 : decode cX6_trainOf 43 = .ok (.aload_n 0, 1) := by decide +kernel
theorem dX6_trainOf_44 : decode cX6_trainOf 44 = .ok (.getfield 195, 3) := by decide +kernel
theorem dX6_trainOf_47 : decode cX6_trainOf 47 = .ok (.iconst 1, 1) := by decide +kernel
theorem dX6_trainOf_48 : decode cX6_trainOf 48 = .ok (.if_icmp .le 12, 3) := by decide +kernel
theorem dX6_trainOf_51 : decode cX6_trainOf 51 = .ok (.aload_n 0, 1) := by decide +kernel
theorem dX6_trainOf_52 : decode cX6_trainOf 52 = .ok (.getfield 39, 3) := by decide +kernel
theorem dX6_trainOf_55 : decode cX6_trainOf 55 = .ok (.iconst 1, 1) := by decide +kernel
theorem dX6_trainOf_56 : decode cX6_trainOf 56 = .ok (.iaload, 1) := by decide +kernel
theorem dX6_trainOf_57 : decode cX6_trainOf 57 = .ok (.goto 21, 3) := by decide +kernel
theorem dX6_trainOf_60 : decode cX6_trainOf 60 = .ok (.iconst (-1), 1) := by decide +kernel
theorem dX6_trainOf_61 : decode cX6_trainOf 61 = .ok (.goto 17, 3) := by decide +kernel
theorem dX6_trainOf_64 : decode cX6_trainOf 64 = .ok (.aload_n 0, 1) := by decide +kernel
theorem dX6_trainOf_65 : decode cX6_trainOf 65 = .ok (.getfield 82, 3) := by decide +kernel
theorem dX6_trainOf_68 : decode cX6_trainOf 68 = .ok (.lconst 0, 1) := by decide +kernel
theorem dX6_trainOf_69 : decode cX6_trainOf 69 = .ok (.lcmp, 1) := by decide +kernel
theorem dX6_trainOf_70 : decode cX6_trainOf 70 = .ok (.ifCond .ge 7, 3) := by decide +kernel
theorem dX6_trainOf_73 : decode cX6_trainOf 73 = .ok (.iconst 1, 1) := by decide +kernel
theorem dX6_trainOf_74 : decode cX6_trainOf 74 = .ok (.goto 4, 3) := by decide +kernel
theorem dX6_trainOf_77 : decode cX6_trainOf 77 = .ok (.iconst 0, 1) := by decide +kernel
theorem dX6_trainOf_78 : decode cX6_trainOf 78 = .ok (.ireturn, 1) := by decide +kernel
set_option maxRecDepth 20000 in
theorem ggX6_train_X6_isPeg : GoodIn wsX6_train wsX6_isPeg := goodIn_r _ [5, 6, 7, 8, 4, 9, 68, 69, 70, 71, 72, 73, 74, 75, 76, 77, 78, 79, 80, 81, 82, 83, 84, 85, 86, 87, 88] (by decide +kernel) (by decide +kernel)
set_option maxRecDepth 20000 in
theorem gX6_train_X6_isPeg : GoodIn wsX6_train (wsV RX6 121 RX6 yX6_isPeg wsX6_isPeg) := goodIn_app (goodIn_of _ (by decide +kernel)) ggX6_train_X6_isPeg
set_option maxRecDepth 20000 in
theorem ggX6_train_X6_in : GoodIn wsX6_train wsX6_in := goodIn_r _ [9] (by decide +kernel) (by decide +kernel)
set_option maxRecDepth 20000 in
theorem gX6_train_X6_in : GoodIn wsX6_train (va_wsS RX6 46 yX6_in wsX6_in) := goodIn_app (goodIn_of _ (by decide +kernel)) ggX6_train_X6_in
set_option maxRecDepth 20000 in
theorem ggX6_train_X6_holds : GoodIn wsX6_train wsX6_holds := goodIn_r _ [13, 14, 68, 69, 70, 71, 72, 73, 74, 75, 76, 77, 78, 79, 80, 81, 82, 83, 84, 85, 86, 87, 88] (by decide +kernel) (by decide +kernel)
set_option maxRecDepth 20000 in
theorem gX6_train_X6_holds : GoodIn wsX6_train (wsV RX6 111 RX6 yX6_holds wsX6_holds) := goodIn_app (goodIn_of _ (by decide +kernel)) ggX6_train_X6_holds
set_option maxRecDepth 20000 in
theorem ggX6_train_X6_trainOf : GoodIn wsX6_train wsX6_trainOf := goodIn_r _ [18, 19, 20, 21, 22, 23, 24, 25, 4, 26, 27, 6, 28, 29, 30, 31, 32, 33, 34, 35, 36, 37, 38, 39, 40, 41, 42, 43, 44, 45, 46, 47, 48, 49, 50, 51, 52, 53, 54, 55, 56, 57, 58, 59, 60, 61, 62, 63, 64, 65, 66, 67, 68, 69, 70, 71, 72, 73, 74, 75, 76, 77, 78, 79, 80, 81, 82, 83, 84, 85, 86, 87, 88] (by decide +kernel) (by decide +kernel)
set_option maxRecDepth 20000 in
theorem gX6_train_X6_trainOf : GoodIn wsX6_train (wsV RX6 208 RX6 yX6_trainOf wsX6_trainOf) := goodIn_app (goodIn_of _ (by decide +kernel)) ggX6_train_X6_trainOf
theorem dX6_train_0 : decode cX6_train 0 = .ok (.aload_n 0, 1) := by decide +kernel
theorem dX6_train_1 : decode cX6_train 1 = .ok (.aload_n 0, 1) := by decide +kernel
theorem dX6_train_2 : decode cX6_train 2 = .ok (.iload_n 1, 1) := by decide +kernel
theorem dX6_train_3 : decode cX6_train 3 = .ok (.invokevirtual 121, 3) := by decide +kernel
theorem dX6_train_6 : decode cX6_train 6 = .ok (.ifCond .eq 11, 3) := by decide +kernel
theorem dX6_train_9 : decode cX6_train 9 = .ok (.aload_n 0, 1) := by decide +kernel
theorem dX6_train_10 : decode cX6_train 10 = .ok (.iload_n 2, 1) := by decide +kernel
theorem dX6_train_11 : decode cX6_train 11 = .ok (.invokevirtual 121, 3) := by decide +kernel
theorem dX6_train_14 : decode cX6_train 14 = .ok (.ifCond .ne 7, 3) := by decide +kernel
theorem dX6_train_17 : decode cX6_train 17 = .ok (.iconst 1, 1) := by decide +kernel
theorem dX6_train_18 : decode cX6_train 18 = .ok (.goto 17, 3) := by decide +kernel
theorem dX6_train_21 : decode cX6_train 21 = .ok (.iload_n 3, 1) := by decide +kernel
theorem dX6_train_22 : decode cX6_train 22 = .ok (.iconst 0, 1) := by decide +kernel
theorem dX6_train_23 : decode cX6_train 23 = .ok (.iconst 3, 1) := by decide +kernel
theorem dX6_train_24 : decode cX6_train 24 = .ok (.invokestatic 46, 3) := by decide +kernel
theorem dX6_train_27 : decode cX6_train 27 = .ok (.ifCond .ne 7, 3) := by decide +kernel
theorem dX6_train_30 : decode cX6_train 30 = .ok (.iconst 2, 1) := by decide +kernel
theorem dX6_train_31 : decode cX6_train 31 = .ok (.goto 4, 3) := by decide +kernel
theorem dX6_train_34 : decode cX6_train 34 = .ok (.iconst 0, 1) := by decide +kernel
theorem dX6_train_35 : decode cX6_train 35 = .ok (.invokevirtual 111, 3) := by decide +kernel
theorem dX6_train_38 : decode cX6_train 38 = .ok (.ifCond .eq 13, 3) := by decide +kernel
theorem dX6_train_41 : decode cX6_train 41 = .ok (.aload_n 0, 1) := by decide +kernel
theorem dX6_train_42 : decode cX6_train 42 = .ok (.iload_n 1, 1) := by decide +kernel
theorem dX6_train_43 : decode cX6_train 43 = .ok (.iload_n 2, 1) := by decide +kernel
theorem dX6_train_44 : decode cX6_train 44 = .ok (.iload_n 3, 1) := by decide +kernel
theorem dX6_train_45 : decode cX6_train 45 = .ok (.invokevirtual 208, 3) := by decide +kernel
theorem dX6_train_48 : decode cX6_train 48 = .ok (.goto 4, 3) := by decide +kernel
theorem dX6_train_51 : decode cX6_train 51 = .ok (.iconst 0, 1) := by decide +kernel
theorem dX6_train_52 : decode cX6_train 52 = .ok (.ireturn, 1) := by decide +kernel
set_option maxRecDepth 20000 in
theorem ggX6_ratioOf_X6_layTrain : GoodIn wsX6_ratioOf wsX6_layTrain := goodIn_r _ [7, 8, 9, 10, 11, 12, 13, 14, 6, 15, 16, 17, 18, 19, 20, 21, 22, 23, 24, 25, 26, 27, 28, 29, 30, 31, 32, 33, 34, 35, 36, 37, 38, 39, 40, 41, 42, 1, 2, 43, 44, 45, 46, 47, 48, 49, 50, 51, 52, 53, 54, 55, 56, 57, 58, 59, 60, 61, 62, 63, 64, 65, 66, 67, 68, 69, 70, 71, 72] (by decide +kernel) (by decide +kernel)
set_option maxRecDepth 20000 in
theorem gX6_ratioOf_X6_layTrain : GoodIn wsX6_ratioOf (wsV RX6 204 RX6 yX6_layTrain wsX6_layTrain) := goodIn_app (goodIn_of _ (by decide +kernel)) ggX6_ratioOf_X6_layTrain
theorem dX6_ratioOf_0 : decode cX6_ratioOf 0 = .ok (.aload_n 0, 1) := by decide +kernel
theorem dX6_ratioOf_1 : decode cX6_ratioOf 1 = .ok (.iload_n 1, 1) := by decide +kernel
theorem dX6_ratioOf_2 : decode cX6_ratioOf 2 = .ok (.iload_n 2, 1) := by decide +kernel
theorem dX6_ratioOf_3 : decode cX6_ratioOf 3 = .ok (.invokevirtual 204, 3) := by decide +kernel
theorem dX6_ratioOf_6 : decode cX6_ratioOf 6 = .ok (.iload_n 3, 1) := by decide +kernel
theorem dX6_ratioOf_7 : decode cX6_ratioOf 7 = .ok (.ifCond .ne 10, 3) := by decide +kernel
theorem dX6_ratioOf_10 : decode cX6_ratioOf 10 = .ok (.aload_n 0, 1) := by decide +kernel
theorem dX6_ratioOf_11 : decode cX6_ratioOf 11 = .ok (.getfield 82, 3) := by decide +kernel
theorem dX6_ratioOf_14 : decode cX6_ratioOf 14 = .ok (.goto 7, 3) := by decide +kernel
theorem dX6_ratioOf_17 : decode cX6_ratioOf 17 = .ok (.aload_n 0, 1) := by decide +kernel
theorem dX6_ratioOf_18 : decode cX6_ratioOf 18 = .ok (.getfield 86, 3) := by decide +kernel
theorem dX6_ratioOf_21 : decode cX6_ratioOf 21 = .ok (.lreturn, 1) := by decide +kernel
set_option maxRecDepth 20000 in
theorem ggX6_ratio_X6_isPeg : GoodIn wsX6_ratio wsX6_isPeg := goodIn_r _ [5, 6, 7, 8, 4, 9, 68, 69, 70, 71, 72, 73, 74, 75, 76, 77, 78, 79, 80, 81, 82, 83, 84, 85, 86, 87, 88] (by decide +kernel) (by decide +kernel)
set_option maxRecDepth 20000 in
theorem gX6_ratio_X6_isPeg : GoodIn wsX6_ratio (wsV RX6 121 RX6 yX6_isPeg wsX6_isPeg) := goodIn_app (goodIn_of _ (by decide +kernel)) ggX6_ratio_X6_isPeg
set_option maxRecDepth 20000 in
theorem ggX6_ratio_X6_in : GoodIn wsX6_ratio wsX6_in := goodIn_r _ [9] (by decide +kernel) (by decide +kernel)
set_option maxRecDepth 20000 in
theorem gX6_ratio_X6_in : GoodIn wsX6_ratio (va_wsS RX6 46 yX6_in wsX6_in) := goodIn_app (goodIn_of _ (by decide +kernel)) ggX6_ratio_X6_in
set_option maxRecDepth 20000 in
theorem ggX6_ratio_X6_holds : GoodIn wsX6_ratio wsX6_holds := goodIn_r _ [13, 14, 68, 69, 70, 71, 72, 73, 74, 75, 76, 77, 78, 79, 80, 81, 82, 83, 84, 85, 86, 87, 88] (by decide +kernel) (by decide +kernel)
set_option maxRecDepth 20000 in
theorem gX6_ratio_X6_holds : GoodIn wsX6_ratio (wsV RX6 111 RX6 yX6_holds wsX6_holds) := goodIn_app (goodIn_of _ (by decide +kernel)) ggX6_ratio_X6_holds
set_option maxRecDepth 20000 in
theorem ggX6_ratio_X6_ratioOf : GoodIn wsX6_ratio wsX6_ratioOf := goodIn_r _ [18, 19, 20, 21, 22, 23, 4, 24, 25, 6, 26, 27, 28, 29, 30, 31, 32, 33, 34, 35, 36, 37, 38, 39, 40, 41, 42, 43, 44, 45, 46, 47, 48, 49, 50, 51, 52, 53, 54, 55, 56, 57, 58, 59, 60, 61, 62, 63, 64, 65, 66, 67, 68, 69, 70, 71, 72, 73, 74, 75, 76, 77, 78, 79, 80, 81, 82, 83, 84, 85, 86, 87, 88] (by decide +kernel) (by decide +kernel)
set_option maxRecDepth 20000 in
theorem gX6_ratio_X6_ratioOf : GoodIn wsX6_ratio (wsV RX6 211 RX6 yX6_ratioOf wsX6_ratioOf) := goodIn_app (goodIn_of _ (by decide +kernel)) ggX6_ratio_X6_ratioOf
theorem dX6_ratio_0 : decode cX6_ratio 0 = .ok (.aload_n 0, 1) := by decide +kernel
theorem dX6_ratio_1 : decode cX6_ratio 1 = .ok (.aload_n 0, 1) := by decide +kernel
theorem dX6_ratio_2 : decode cX6_ratio 2 = .ok (.iload_n 1, 1) := by decide +kernel
theorem dX6_ratio_3 : decode cX6_ratio 3 = .ok (.invokevirtual 121, 3) := by decide +kernel
theorem dX6_ratio_6 : decode cX6_ratio 6 = .ok (.ifCond .eq 11, 3) := by decide +kernel
theorem dX6_ratio_9 : decode cX6_ratio 9 = .ok (.aload_n 0, 1) := by decide +kernel
theorem dX6_ratio_10 : decode cX6_ratio 10 = .ok (.iload_n 2, 1) := by decide +kernel
theorem dX6_ratio_11 : decode cX6_ratio 11 = .ok (.invokevirtual 121, 3) := by decide +kernel
theorem dX6_ratio_14 : decode cX6_ratio 14 = .ok (.ifCond .ne 7, 3) := by decide +kernel
theorem dX6_ratio_17 : decode cX6_ratio 17 = .ok (.iconst 1, 1) := by decide +kernel
theorem dX6_ratio_18 : decode cX6_ratio 18 = .ok (.goto 17, 3) := by decide +kernel
theorem dX6_ratio_21 : decode cX6_ratio 21 = .ok (.iload_n 3, 1) := by decide +kernel
theorem dX6_ratio_22 : decode cX6_ratio 22 = .ok (.iconst 0, 1) := by decide +kernel
theorem dX6_ratio_23 : decode cX6_ratio 23 = .ok (.iconst 1, 1) := by decide +kernel
theorem dX6_ratio_24 : decode cX6_ratio 24 = .ok (.invokestatic 46, 3) := by decide +kernel
theorem dX6_ratio_27 : decode cX6_ratio 27 = .ok (.ifCond .ne 7, 3) := by decide +kernel
theorem dX6_ratio_30 : decode cX6_ratio 30 = .ok (.iconst 2, 1) := by decide +kernel
theorem dX6_ratio_31 : decode cX6_ratio 31 = .ok (.goto 4, 3) := by decide +kernel
theorem dX6_ratio_34 : decode cX6_ratio 34 = .ok (.iconst 0, 1) := by decide +kernel
theorem dX6_ratio_35 : decode cX6_ratio 35 = .ok (.invokevirtual 111, 3) := by decide +kernel
theorem dX6_ratio_38 : decode cX6_ratio 38 = .ok (.ifCond .eq 13, 3) := by decide +kernel
theorem dX6_ratio_41 : decode cX6_ratio 41 = .ok (.aload_n 0, 1) := by decide +kernel
theorem dX6_ratio_42 : decode cX6_ratio 42 = .ok (.iload_n 1, 1) := by decide +kernel
theorem dX6_ratio_43 : decode cX6_ratio 43 = .ok (.iload_n 2, 1) := by decide +kernel
theorem dX6_ratio_44 : decode cX6_ratio 44 = .ok (.iload_n 3, 1) := by decide +kernel
theorem dX6_ratio_45 : decode cX6_ratio 45 = .ok (.invokevirtual 211, 3) := by decide +kernel
theorem dX6_ratio_48 : decode cX6_ratio 48 = .ok (.goto 4, 3) := by decide +kernel
theorem dX6_ratio_51 : decode cX6_ratio 51 = .ok (.lconst 0, 1) := by decide +kernel
theorem dX6_ratio_52 : decode cX6_ratio 52 = .ok (.lreturn, 1) := by decide +kernel
set_option maxRecDepth 20000 in
theorem ggX6_backBehind_X6_common : GoodIn wsX6_backBehind wsX6_common := goodIn_r _ [7] (by decide +kernel) (by decide +kernel)
set_option maxRecDepth 20000 in
theorem gX6_backBehind_X6_common : GoodIn wsX6_backBehind (va_wsS RX6 78 yX6_common wsX6_common) := goodIn_app (goodIn_of _ (by decide +kernel)) ggX6_backBehind_X6_common
theorem dX6_backBehind_0 : decode cX6_backBehind 0 = .ok (.aload_n 0, 1) := by decide +kernel
theorem dX6_backBehind_1 : decode cX6_backBehind 1 = .ok (.getfield 7, 3) := by decide +kernel
theorem dX6_backBehind_4 : decode cX6_backBehind 4 = .ok (.bipush 55, 2) := by decide +kernel
theorem dX6_backBehind_6 : decode cX6_backBehind 6 = .ok (.iaload, 1) := by decide +kernel
theorem dX6_backBehind_7 : decode cX6_backBehind 7 = .ok (.iconst (-1), 1) := by decide +kernel
theorem dX6_backBehind_8 : decode cX6_backBehind 8 = .ok (.if_icmp .eq 10, 3) := by decide +kernel
theorem dX6_backBehind_11 : decode cX6_backBehind 11 = .ok (.aload_n 0, 1) := by decide +kernel
theorem dX6_backBehind_12 : decode cX6_backBehind 12 = .ok (.getfield 89, 3) := by decide +kernel
theorem dX6_backBehind_15 : decode cX6_backBehind 15 = .ok (.ifCond .eq 5, 3) := by decide +kernel
theorem dX6_backBehind_18 : decode cX6_backBehind 18 = .ok (.lconst 0, 1) := by decide +kernel
theorem dX6_backBehind_19 : decode cX6_backBehind 19 = .ok (.lreturn, 1) := by decide +kernel
theorem dX6_backBehind_20 : decode cX6_backBehind 20 = .ok (.lconst 1, 1) := by decide +kernel
theorem dX6_backBehind_21 : decode cX6_backBehind 21 = .ok (.lstore_n 1, 1) := by decide +kernel
theorem dX6_backBehind_22 : decode cX6_backBehind 22 = .ok (.iconst 0, 1) := by decide +kernel
theorem dX6_backBehind_23 : decode cX6_backBehind 23 = .ok (.istore_n 3, 1) := by decide +kernel
theorem dX6_backBehind_24 : decode cX6_backBehind 24 = .ok (.iload_n 3, 1) := by decide +kernel
theorem dX6_backBehind_25 : decode cX6_backBehind 25 = .ok (.aload_n 0, 1) := by decide +kernel
theorem dX6_backBehind_26 : decode cX6_backBehind 26 = .ok (.getfield 7, 3) := by decide +kernel
theorem dX6_backBehind_29 : decode cX6_backBehind 29 = .ok (.iconst 0, 1) := by decide +kernel
theorem dX6_backBehind_30 : decode cX6_backBehind 30 = .ok (.iaload, 1) := by decide +kernel
theorem dX6_backBehind_31 : decode cX6_backBehind 31 = .ok (.if_icmp .ge 29, 3) := by decide +kernel
theorem dX6_backBehind_34 : decode cX6_backBehind 34 = .ok (.lload_n 1, 1) := by decide +kernel
theorem dX6_backBehind_35 : decode cX6_backBehind 35 = .ok (.lload_n 1, 1) := by decide +kernel
theorem dX6_backBehind_36 : decode cX6_backBehind 36 = .ok (.aload_n 0, 1) := by decide +kernel
theorem dX6_backBehind_37 : decode cX6_backBehind 37 = .ok (.getfield 26, 3) := by decide +kernel
theorem dX6_backBehind_40 : decode cX6_backBehind 40 = .ok (.iload_n 3, 1) := by decide +kernel
theorem dX6_backBehind_41 : decode cX6_backBehind 41 = .ok (.laload, 1) := by decide +kernel
theorem dX6_backBehind_42 : decode cX6_backBehind 42 = .ok (.invokestatic 78, 3) := by decide +kernel
theorem dX6_backBehind_45 : decode cX6_backBehind 45 = .ok (.ldiv, 1) := by decide +kernel
theorem dX6_backBehind_46 : decode cX6_backBehind 46 = .ok (.aload_n 0, 1) := by decide +kernel
theorem dX6_backBehind_47 : decode cX6_backBehind 47 = .ok (.getfield 26, 3) := by decide +kernel
theorem dX6_backBehind_50 : decode cX6_backBehind 50 = .ok (.iload_n 3, 1) := by decide +kernel
theorem dX6_backBehind_51 : decode cX6_backBehind 51 = .ok (.laload, 1) := by decide +kernel
theorem dX6_backBehind_52 : decode cX6_backBehind 52 = .ok (.lmul, 1) := by decide +kernel
theorem dX6_backBehind_53 : decode cX6_backBehind 53 = .ok (.lstore_n 1, 1) := by decide +kernel
theorem dX6_backBehind_54 : decode cX6_backBehind 54 = .ok (.iinc 3 1, 3) := by decide +kernel
theorem dX6_backBehind_57 : decode cX6_backBehind 57 = .ok (.goto (-33), 3) := by decide +kernel
theorem dX6_backBehind_60 : decode cX6_backBehind 60 = .ok (.lload_n 1, 1) := by decide +kernel
theorem dX6_backBehind_61 : decode cX6_backBehind 61 = .ok (.lreturn, 1) := by decide +kernel
set_option maxRecDepth 20000 in
theorem ggX6_marks_X6_layOut : GoodIn wsX6_marks wsX6_layOut := goodIn_r _ [6, 7, 8, 9, 10, 11, 12, 13, 14, 15, 16, 5, 17, 18, 19, 20, 21, 22, 23, 24, 25, 26, 27, 28, 29, 30, 31, 32, 33, 34, 35, 36, 37, 38, 39, 40, 41, 42, 43, 44, 49, 50, 51, 52, 53, 54, 55, 56, 57, 58, 59, 60, 61, 62, 63, 64, 65, 66, 67, 68, 69] (by decide +kernel) (by decide +kernel)
set_option maxRecDepth 20000 in
theorem gX6_marks_X6_layOut : GoodIn wsX6_marks (wsV RX6 156 RX6 yX6_layOut wsX6_layOut) := goodIn_app (goodIn_of _ (by decide +kernel)) ggX6_marks_X6_layOut
set_option maxRecDepth 20000 in
theorem ggX6_marks_X6_backBehind : GoodIn wsX6_marks wsX6_backBehind := goodIn_r _ [48, 9, 7, 11, 42, 43, 5, 44, 49, 50, 51, 52, 53, 54, 55, 56, 57, 58, 59, 60, 61, 62, 63, 64, 65, 66, 67, 68, 69] (by decide +kernel) (by decide +kernel)
set_option maxRecDepth 20000 in
theorem gX6_marks_X6_backBehind : GoodIn wsX6_marks (wsV RX6 215 RX6 yX6_backBehind wsX6_backBehind) := goodIn_app (goodIn_of _ (by decide +kernel)) ggX6_marks_X6_backBehind
theorem dX6_marks_0 : decode cX6_marks 0 = .ok (.aload_n 0, 1) := by decide +kernel
theorem dX6_marks_1 : decode cX6_marks 1 = .ok (.iconst 0, 1) := by decide +kernel
theorem dX6_marks_2 : decode cX6_marks 2 = .ok (.putfield 42, 3) := by decide +kernel
theorem dX6_marks_5 : decode cX6_marks 5 = .ok (.aload_n 0, 1) := by decide +kernel
theorem dX6_marks_6 : decode cX6_marks 6 = .ok (.invokevirtual 156, 3) := by decide +kernel
theorem dX6_marks_9 : decode cX6_marks 9 = .ok (.aload_n 0, 1) := by decide +kernel
theorem dX6_marks_10 : decode cX6_marks 10 = .ok (.invokevirtual 215, 3) := by decide +kernel
theorem dX6_marks_13 : decode cX6_marks 13 = .ok (.lreturn, 1) := by decide +kernel
set_option maxRecDepth 20000 in
theorem ggX6_sum_X6_kind : GoodIn wsX6_sum wsX6_kind := goodIn_r _ [6, 1, 30, 31, 32, 33, 34, 35, 36, 37, 38, 39, 40, 41, 42, 43, 44, 45, 46, 47, 48, 49, 50] (by decide +kernel) (by decide +kernel)
set_option maxRecDepth 20000 in
theorem gX6_sum_X6_kind : GoodIn wsX6_sum (wsV RX6 53 RX6 yX6_kind wsX6_kind) := goodIn_app (goodIn_of _ (by decide +kernel)) ggX6_sum_X6_kind
set_option maxRecDepth 20000 in
theorem ggX6_sum_X6_meshed : GoodIn wsX6_sum wsX6_meshed := goodIn_r _ [10, 11, 12, 13, 5, 14, 15, 16, 17, 18, 1, 2, 3, 4, 6, 19, 20, 21, 22, 23, 24, 25, 26, 27, 28, 29, 30, 31, 32, 33, 34, 35, 36, 37, 38, 39, 40, 41, 42, 43, 44, 45, 46, 47, 48, 49, 50] (by decide +kernel) (by decide +kernel)
set_option maxRecDepth 20000 in
theorem gX6_sum_X6_meshed : GoodIn wsX6_sum (wsV RX6 73 RX6 yX6_meshed wsX6_meshed) := goodIn_app (goodIn_of _ (by decide +kernel)) ggX6_sum_X6_meshed
set_option maxRecDepth 20000 in
theorem ggX6_sum_X6_touch : GoodIn wsX6_sum wsX6_touch := goodIn_r _ [18, 1, 2, 3, 4, 5, 6, 19, 20, 21, 22, 23, 24, 25, 26, 27, 28, 29, 30, 31, 32, 33, 34, 35, 36, 37, 38, 39, 40, 41, 42, 43, 44, 45, 46, 47, 48, 49, 50] (by decide +kernel) (by decide +kernel)
set_option maxRecDepth 20000 in
theorem gX6_sum_X6_touch : GoodIn wsX6_sum (wsV RX6 66 RX6 yX6_touch wsX6_touch) := goodIn_app (goodIn_of _ (by decide +kernel)) ggX6_sum_X6_touch
theorem dX6_sum_0 : decode cX6_sum 0 = .ok (.iconst 0, 1) := by decide +kernel
theorem dX6_sum_1 : decode cX6_sum 1 = .ok (.istore_n 2, 1) := by decide +kernel
theorem dX6_sum_2 : decode cX6_sum 2 = .ok (.iconst 0, 1) := by decide +kernel
theorem dX6_sum_3 : decode cX6_sum 3 = .ok (.istore_n 3, 1) := by decide +kernel
theorem dX6_sum_4 : decode cX6_sum 4 = .ok (.iload_n 3, 1) := by decide +kernel
theorem dX6_sum_5 : decode cX6_sum 5 = .ok (.aload_n 0, 1) := by decide +kernel
theorem dX6_sum_6 : decode cX6_sum 6 = .ok (.getfield 7, 3) := by decide +kernel
theorem dX6_sum_9 : decode cX6_sum 9 = .ok (.iconst 0, 1) := by decide +kernel
theorem dX6_sum_10 : decode cX6_sum 10 = .ok (.iaload, 1) := by decide +kernel
theorem dX6_sum_11 : decode cX6_sum 11 = .ok (.if_icmp .ge 134, 3) := by decide +kernel
theorem dX6_sum_14 : decode cX6_sum 14 = .ok (.iconst 0, 1) := by decide +kernel
theorem dX6_sum_15 : decode cX6_sum 15 = .ok (.istore 4, 2) := by decide +kernel
theorem dX6_sum_17 : decode cX6_sum 17 = .ok (.iload 4, 2) := by decide +kernel
theorem dX6_sum_19 : decode cX6_sum 19 = .ok (.iconst 2, 1) := by decide +kernel
theorem dX6_sum_20 : decode cX6_sum 20 = .ok (.if_icmp .ge 33, 3) := by decide +kernel
theorem dX6_sum_23 : decode cX6_sum 23 = .ok (.iload_n 2, 1) := by decide +kernel
theorem dX6_sum_24 : decode cX6_sum 24 = .ok (.iload_n 1, 1) := by decide +kernel
theorem dX6_sum_25 : decode cX6_sum 25 = .ok (.iconst 3, 1) := by decide +kernel
theorem dX6_sum_26 : decode cX6_sum 26 = .ok (.if_icmp .ge 18, 3) := by decide +kernel
theorem dX6_sum_29 : decode cX6_sum 29 = .ok (.aload_n 0, 1) := by decide +kernel
theorem dX6_sum_30 : decode cX6_sum 30 = .ok (.iload_n 3, 1) := by decide +kernel
theorem dX6_sum_31 : decode cX6_sum 31 = .ok (.iload 4, 2) := by decide +kernel
theorem dX6_sum_33 : decode cX6_sum 33 = .ok (.invokevirtual 53, 3) := by decide +kernel
theorem dX6_sum_36 : decode cX6_sum 36 = .ok (.iload_n 1, 1) := by decide +kernel
theorem dX6_sum_37 : decode cX6_sum 37 = .ok (.if_icmp .ne 7, 3) := by decide +kernel
theorem dX6_sum_40 : decode cX6_sum 40 = .ok (.iconst 1, 1) := by decide +kernel
theorem dX6_sum_41 : decode cX6_sum 41 = .ok (.goto 4, 3) := by decide +kernel
theorem dX6_sum_44 : decode cX6_sum 44 = .ok (.iconst 0, 1) := by decide +kernel
theorem dX6_sum_45 : decode cX6_sum 45 = .ok (.iadd, 1) := by decide +kernel
theorem dX6_sum_46 : decode cX6_sum 46 = .ok (.istore_n 2, 1) := by decide +kernel
theorem dX6_sum_47 : decode cX6_sum 47 = .ok (.iinc 4 1, 3) := by decide +kernel
theorem dX6_sum_50 : decode cX6_sum 50 = .ok (.goto (-33), 3) := by decide +kernel
theorem dX6_sum_53 : decode cX6_sum 53 = .ok (.iconst 0, 1) := by decide +kernel
theorem dX6_sum_54 : decode cX6_sum 54 = .ok (.istore 4, 2) := by decide +kernel
theorem dX6_sum_56 : decode cX6_sum 56 = .ok (.iload 4, 2) := by decide +kernel
theorem dX6_sum_58 : decode cX6_sum 58 = .ok (.iload_n 3, 1) := by decide +kernel
theorem dX6_sum_59 : decode cX6_sum 59 = .ok (.if_icmp .ge 80, 3) := by decide +kernel
theorem dX6_sum_62 : decode cX6_sum 62 = .ok (.iload_n 2, 1) := by decide +kernel
theorem dX6_sum_63 : decode cX6_sum 63 = .ok (.iload_n 1, 1) := by decide +kernel
theorem dX6_sum_64 : decode cX6_sum 64 = .ok (.iconst 3, 1) := by decide +kernel
theorem dX6_sum_65 : decode cX6_sum 65 = .ok (.if_icmp .ne 17, 3) := by decide +kernel
theorem dX6_sum_68 : decode cX6_sum 68 = .ok (.aload_n 0, 1) := by decide +kernel
theorem dX6_sum_69 : decode cX6_sum 69 = .ok (.iload_n 3, 1) := by decide +kernel
theorem dX6_sum_70 : decode cX6_sum 70 = .ok (.iload 4, 2) := by decide +kernel
theorem dX6_sum_72 : decode cX6_sum 72 = .ok (.invokevirtual 73, 3) := by decide +kernel
theorem dX6_sum_75 : decode cX6_sum 75 = .ok (.ifCond .le 7, 3) := by decide +kernel
theorem dX6_sum_78 : decode cX6_sum 78 = .ok (.iconst 1, 1) := by decide +kernel
theorem dX6_sum_79 : decode cX6_sum 79 = .ok (.goto 4, 3) := by decide +kernel
theorem dX6_sum_82 : decode cX6_sum 82 = .ok (.iconst 0, 1) := by decide +kernel
theorem dX6_sum_83 : decode cX6_sum 83 = .ok (.iadd, 1) := by decide +kernel
theorem dX6_sum_84 : decode cX6_sum 84 = .ok (.istore_n 2, 1) := by decide +kernel
theorem dX6_sum_85 : decode cX6_sum 85 = .ok (.iload_n 2, 1) := by decide +kernel
theorem dX6_sum_86 : decode cX6_sum 86 = .ok (.iload_n 1, 1) := by decide +kernel
theorem dX6_sum_87 : decode cX6_sum 87 = .ok (.bipush 9, 2) := by decide +kernel
theorem dX6_sum_89 : decode cX6_sum 89 = .ok (.if_icmp .ne 41, 3) := by decide +kernel
theorem dX6_sum_92 : decode cX6_sum 92 = .ok (.aload_n 0, 1) := by decide +kernel
theorem dX6_sum_93 : decode cX6_sum 93 = .ok (.iload_n 3, 1) := by decide +kernel
theorem dX6_sum_94 : decode cX6_sum 94 = .ok (.iload 4, 2) := by decide +kernel
theorem dX6_sum_96 : decode cX6_sum 96 = .ok (.iconst 0, 1) := by decide +kernel
theorem dX6_sum_97 : decode cX6_sum 97 = .ok (.iconst 0, 1) := by decide +kernel
theorem dX6_sum_98 : decode cX6_sum 98 = .ok (.invokevirtual 66, 3) := by decide +kernel
theorem dX6_sum_101 : decode cX6_sum 101 = .ok (.ifCond .eq 7, 3) := by decide +kernel
theorem dX6_sum_104 : decode cX6_sum 104 = .ok (.iconst 1, 1) := by decide +kernel
theorem dX6_sum_105 : decode cX6_sum 105 = .ok (.goto 4, 3) := by decide +kernel
theorem dX6_sum_108 : decode cX6_sum 108 = .ok (.iconst 0, 1) := by decide +kernel
theorem dX6_sum_109 : decode cX6_sum 109 = .ok (.aload_n 0, 1) := by decide +kernel
theorem dX6_sum_110 : decode cX6_sum 110 = .ok (.iload_n 3, 1) := by decide +kernel
theorem dX6_sum_111 : decode cX6_sum 111 = .ok (.iload 4, 2) := by decide +kernel
theorem dX6_sum_113 : decode cX6_sum 113 = .ok (.iconst 1, 1) := by decide +kernel
theorem dX6_sum_114 : decode cX6_sum 114 = .ok (.iconst 0, 1) := by decide +kernel
theorem dX6_sum_115 : decode cX6_sum 115 = .ok (.invokevirtual 66, 3) := by decide +kernel
theorem dX6_sum_118 : decode cX6_sum 118 = .ok (.ifCond .eq 7, 3) := by decide +kernel
theorem dX6_sum_121 : decode cX6_sum 121 = .ok (.iconst 1, 1) := by decide +kernel
theorem dX6_sum_122 : decode cX6_sum 122 = .ok (.goto 4, 3) := by decide +kernel
theorem dX6_sum_125 : decode cX6_sum 125 = .ok (.iconst 0, 1) := by decide +kernel
theorem dX6_sum_126 : decode cX6_sum 126 = .ok (.iadd, 1) := by decide +kernel
theorem dX6_sum_127 : decode cX6_sum 127 = .ok (.goto 4, 3) := by decide +kernel
theorem dX6_sum_130 : decode cX6_sum 130 = .ok (.iconst 0, 1) := by decide +kernel
theorem dX6_sum_131 : decode cX6_sum 131 = .ok (.iadd, 1) := by decide +kernel
theorem dX6_sum_132 : decode cX6_sum 132 = .ok (.istore_n 2, 1) := by decide +kernel
theorem dX6_sum_133 : decode cX6_sum 133 = .ok (.iinc 4 1, 3) := by decide +kernel
theorem dX6_sum_136 : decode cX6_sum 136 = .ok (.goto (-80), 3) := by decide +kernel
theorem dX6_sum_139 : decode cX6_sum 139 = .ok (.iinc 3 1, 3) := by decide +kernel
theorem dX6_sum_142 : decode cX6_sum 142 = .ok (.goto (-138), 3) := by decide +kernel
theorem dX6_sum_145 : decode cX6_sum 145 = .ok (.iload_n 2, 1) := by decide +kernel
theorem dX6_sum_146 : decode cX6_sum 146 = .ok (.ireturn, 1) := by decide +kernel
set_option maxRecDepth 20000 in
theorem ggX6_counted_X6_sum : GoodIn wsX6_counted wsX6_sum := goodIn_r _ [8, 1, 9, 10, 11, 7, 12, 13, 14, 15, 16, 17, 18, 19, 20, 21, 22, 23, 24, 25, 26, 27, 28, 29, 30, 31, 32, 33, 34, 35, 47, 48, 49, 50, 51, 52, 53, 54, 55, 56, 57, 58, 59, 60, 61, 62, 63, 64, 65, 66, 67] (by decide +kernel) (by decide +kernel)
set_option maxRecDepth 20000 in
theorem gX6_counted_X6_sum : GoodIn wsX6_counted (wsV RX6 219 RX6 yX6_sum wsX6_sum) := goodIn_app (goodIn_of _ (by decide +kernel)) ggX6_counted_X6_sum
set_option maxRecDepth 20000 in
theorem ggX6_counted_X6_joined : GoodIn wsX6_counted wsX6_joined := goodIn_r _ [39, 40, 47, 48, 49, 50, 51, 52, 53, 54, 55, 56, 57, 58, 59, 60, 61, 62, 63, 64, 65, 66, 67] (by decide +kernel) (by decide +kernel)
set_option maxRecDepth 20000 in
theorem gX6_counted_X6_joined : GoodIn wsX6_counted (wsV RX6 222 RX6 yX6_joined wsX6_joined) := goodIn_app (goodIn_of _ (by decide +kernel)) ggX6_counted_X6_joined
set_option maxRecDepth 20000 in
theorem ggX6_counted_X6_isReached : GoodIn wsX6_counted wsX6_isReached := goodIn_r _ [44, 1, 45, 46, 47, 48, 49, 50, 51, 52, 53, 54, 55, 56, 57, 58, 59, 60, 61, 62, 63, 64, 65, 66, 67] (by decide +kernel) (by decide +kernel)
set_option maxRecDepth 20000 in
theorem gX6_counted_X6_isReached : GoodIn wsX6_counted (wsV RX6 159 RX6 yX6_isReached wsX6_isReached) := goodIn_app (goodIn_of _ (by decide +kernel)) ggX6_counted_X6_isReached
theorem dX6_counted_0 : decode cX6_counted 0 = .ok (.iload_n 1, 1) := by decide +kernel
theorem dX6_counted_1 : decode cX6_counted 1 = .ok (.tableswitch 115 0 9 #[55, 62, 62, 62, 68, 76, 81, 94, 102, 62], 55) := by decide +kernel
theorem dX6_counted_56 : decode cX6_counted 56 = .ok (.aload_n 0, 1) := by decide +kernel
theorem dX6_counted_57 : decode cX6_counted 57 = .ok (.getfield 7, 3) := by decide +kernel
theorem dX6_counted_60 : decode cX6_counted 60 = .ok (.iconst 0, 1) := by decide +kernel
theorem dX6_counted_61 : decode cX6_counted 61 = .ok (.iaload, 1) := by decide +kernel
theorem dX6_counted_62 : decode cX6_counted 62 = .ok (.ireturn, 1) := by decide +kernel
theorem dX6_counted_63 : decode cX6_counted 63 = .ok (.aload_n 0, 1) := by decide +kernel
theorem dX6_counted_64 : decode cX6_counted 64 = .ok (.iload_n 1, 1) := by decide +kernel
theorem dX6_counted_65 : decode cX6_counted 65 = .ok (.invokevirtual 219, 3) := by decide +kernel
theorem dX6_counted_68 : decode cX6_counted 68 = .ok (.ireturn, 1) := by decide +kernel
theorem dX6_counted_69 : decode cX6_counted 69 = .ok (.aload_n 0, 1) := by decide +kernel
theorem dX6_counted_70 : decode cX6_counted 70 = .ok (.getfield 7, 3) := by decide +kernel
theorem dX6_counted_73 : decode cX6_counted 73 = .ok (.bipush 55, 2) := by decide +kernel
theorem dX6_counted_75 : decode cX6_counted 75 = .ok (.iaload, 1) := by decide +kernel
theorem dX6_counted_76 : decode cX6_counted 76 = .ok (.ireturn, 1) := by decide +kernel
theorem dX6_counted_77 : decode cX6_counted 77 = .ok (.aload_n 0, 1) := by decide +kernel
theorem dX6_counted_78 : decode cX6_counted 78 = .ok (.invokevirtual 222, 3) := by decide +kernel
theorem dX6_counted_81 : decode cX6_counted 81 = .ok (.ireturn, 1) := by decide +kernel
theorem dX6_counted_82 : decode cX6_counted 82 = .ok (.aload_n 0, 1) := by decide +kernel
theorem dX6_counted_83 : decode cX6_counted 83 = .ok (.getfield 89, 3) := by decide +kernel
theorem dX6_counted_86 : decode cX6_counted 86 = .ok (.ifCond .eq 7, 3) := by decide +kernel
theorem dX6_counted_89 : decode cX6_counted 89 = .ok (.iconst 1, 1) := by decide +kernel
theorem dX6_counted_90 : decode cX6_counted 90 = .ok (.goto 4, 3) := by decide +kernel
theorem dX6_counted_93 : decode cX6_counted 93 = .ok (.iconst 0, 1) := by decide +kernel
theorem dX6_counted_94 : decode cX6_counted 94 = .ok (.ireturn, 1) := by decide +kernel
theorem dX6_counted_95 : decode cX6_counted 95 = .ok (.aload_n 0, 1) := by decide +kernel
theorem dX6_counted_96 : decode cX6_counted 96 = .ok (.getfield 7, 3) := by decide +kernel
theorem dX6_counted_99 : decode cX6_counted 99 = .ok (.bipush 56, 2) := by decide +kernel
theorem dX6_counted_101 : decode cX6_counted 101 = .ok (.iaload, 1) := by decide +kernel
theorem dX6_counted_102 : decode cX6_counted 102 = .ok (.ireturn, 1) := by decide +kernel
theorem dX6_counted_103 : decode cX6_counted 103 = .ok (.aload_n 0, 1) := by decide +kernel
theorem dX6_counted_104 : decode cX6_counted 104 = .ok (.invokevirtual 159, 3) := by decide +kernel
theorem dX6_counted_107 : decode cX6_counted 107 = .ok (.ifCond .eq 7, 3) := by decide +kernel
theorem dX6_counted_110 : decode cX6_counted 110 = .ok (.iconst 1, 1) := by decide +kernel
theorem dX6_counted_111 : decode cX6_counted 111 = .ok (.goto 4, 3) := by decide +kernel
theorem dX6_counted_114 : decode cX6_counted 114 = .ok (.iconst 0, 1) := by decide +kernel
theorem dX6_counted_115 : decode cX6_counted 115 = .ok (.ireturn, 1) := by decide +kernel
theorem dX6_counted_116 : decode cX6_counted 116 = .ok (.aload_n 0, 1) := by decide +kernel
theorem dX6_counted_117 : decode cX6_counted 117 = .ok (.getfield 50, 3) := by decide +kernel
theorem dX6_counted_120 : decode cX6_counted 120 = .ok (.ireturn, 1) := by decide +kernel
set_option maxRecDepth 20000 in
theorem ggX6_count_X6_layOut : GoodIn wsX6_count wsX6_layOut := goodIn_r _ [5, 6, 7, 8, 9, 10, 11, 12, 13, 14, 15, 4, 16, 17, 18, 19, 20, 21, 22, 23, 24, 25, 26, 27, 28, 29, 30, 31, 32, 33, 34, 35, 36, 37, 38, 39, 40, 41, 42, 43, 73, 74, 75, 76, 77, 78, 79, 80, 81, 82, 83, 84, 85, 86, 87, 88, 89, 90, 91, 92, 93] (by decide +kernel) (by decide +kernel)
set_option maxRecDepth 20000 in
theorem gX6_count_X6_layOut : GoodIn wsX6_count (wsV RX6 156 RX6 yX6_layOut wsX6_layOut) := goodIn_app (goodIn_of _ (by decide +kernel)) ggX6_count_X6_layOut
set_option maxRecDepth 20000 in
theorem ggX6_count_X6_in : GoodIn wsX6_count wsX6_in := goodIn_r _ [46] (by decide +kernel) (by decide +kernel)
set_option maxRecDepth 20000 in
theorem gX6_count_X6_in : GoodIn wsX6_count (va_wsS RX6 46 yX6_in wsX6_in) := goodIn_app (goodIn_of _ (by decide +kernel)) ggX6_count_X6_in
set_option maxRecDepth 20000 in
theorem ggX6_count_X6_holds : GoodIn wsX6_count wsX6_holds := goodIn_r _ [50, 51, 73, 74, 75, 76, 77, 78, 79, 80, 81, 82, 83, 84, 85, 86, 87, 88, 89, 90, 91, 92, 93] (by decide +kernel) (by decide +kernel)
set_option maxRecDepth 20000 in
theorem gX6_count_X6_holds : GoodIn wsX6_count (wsV RX6 111 RX6 yX6_holds wsX6_holds) := goodIn_app (goodIn_of _ (by decide +kernel)) ggX6_count_X6_holds
set_option maxRecDepth 20000 in
theorem ggX6_count_X6_counted : GoodIn wsX6_count wsX6_counted := goodIn_r _ [55, 8, 6, 56, 57, 58, 59, 4, 60, 21, 22, 23, 24, 61, 62, 63, 64, 13, 14, 15, 16, 17, 18, 19, 20, 25, 26, 27, 28, 29, 30, 31, 32, 33, 34, 35, 65, 66, 67, 68, 7, 69, 70, 71, 72, 9, 10, 73, 74, 75, 76, 77, 78, 79, 80, 81, 82, 83, 84, 85, 86, 87, 88, 89, 90, 91, 92, 93] (by decide +kernel) (by decide +kernel)
set_option maxRecDepth 20000 in
theorem gX6_count_X6_counted : GoodIn wsX6_count (wsV RX6 225 RX6 yX6_counted wsX6_counted) := goodIn_app (goodIn_of _ (by decide +kernel)) ggX6_count_X6_counted
theorem dX6_count_0 : decode cX6_count 0 = .ok (.aload_n 0, 1) := by decide +kernel
theorem dX6_count_1 : decode cX6_count 1 = .ok (.invokevirtual 156, 3) := by decide +kernel
theorem dX6_count_4 : decode cX6_count 4 = .ok (.aload_n 0, 1) := by decide +kernel
theorem dX6_count_5 : decode cX6_count 5 = .ok (.iload_n 1, 1) := by decide +kernel
theorem dX6_count_6 : decode cX6_count 6 = .ok (.iconst 0, 1) := by decide +kernel
theorem dX6_count_7 : decode cX6_count 7 = .ok (.bipush 10, 2) := by decide +kernel
theorem dX6_count_9 : decode cX6_count 9 = .ok (.invokestatic 46, 3) := by decide +kernel
theorem dX6_count_12 : decode cX6_count 12 = .ok (.ifCond .eq 7, 3) := by decide +kernel
theorem dX6_count_15 : decode cX6_count 15 = .ok (.iconst 0, 1) := by decide +kernel
theorem dX6_count_16 : decode cX6_count 16 = .ok (.goto 4, 3) := by decide +kernel
theorem dX6_count_19 : decode cX6_count 19 = .ok (.iconst 1, 1) := by decide +kernel
theorem dX6_count_20 : decode cX6_count 20 = .ok (.invokevirtual 111, 3) := by decide +kernel
theorem dX6_count_23 : decode cX6_count 23 = .ok (.ifCond .eq 11, 3) := by decide +kernel
theorem dX6_count_26 : decode cX6_count 26 = .ok (.aload_n 0, 1) := by decide +kernel
theorem dX6_count_27 : decode cX6_count 27 = .ok (.iload_n 1, 1) := by decide +kernel
theorem dX6_count_28 : decode cX6_count 28 = .ok (.invokevirtual 225, 3) := by decide +kernel
theorem dX6_count_31 : decode cX6_count 31 = .ok (.goto 4, 3) := by decide +kernel
theorem dX6_count_34 : decode cX6_count 34 = .ok (.iconst 0, 1) := by decide +kernel
theorem dX6_count_35 : decode cX6_count 35 = .ok (.ireturn, 1) := by decide +kernel
set_option maxRecDepth 20000 in
theorem ggX6_wouldPut_X6_putAside : GoodIn wsX6_wouldPut wsX6_putAside := goodIn_r _ [7, 8, 1, 77, 78, 79, 80, 81, 82, 83, 84, 85, 86, 87, 88, 89, 90, 91, 92, 93, 94, 95, 96, 97] (by decide +kernel) (by decide +kernel)
set_option maxRecDepth 20000 in
theorem gX6_wouldPut_X6_putAside : GoodIn wsX6_wouldPut (wsV RX6 228 RX6 yX6_putAside wsX6_putAside) := goodIn_app (goodIn_of _ (by decide +kernel)) ggX6_wouldPut_X6_putAside
set_option maxRecDepth 20000 in
theorem ggX6_wouldPut_X6_put : GoodIn wsX6_wouldPut wsX6_put := goodIn_r _ [12, 1, 77, 78, 79, 80, 81, 82, 83, 84, 85, 86, 87, 88, 89, 90, 91, 92, 93, 94, 95, 96, 97] (by decide +kernel) (by decide +kernel)
set_option maxRecDepth 20000 in
theorem gX6_wouldPut_X6_put : GoodIn wsX6_wouldPut (wsV RX6 104 RX6 yX6_put wsX6_put) := goodIn_app (goodIn_of _ (by decide +kernel)) ggX6_wouldPut_X6_put
set_option maxRecDepth 20000 in
theorem ggX6_wouldPut_X6_layOut : GoodIn wsX6_wouldPut wsX6_layOut := goodIn_r _ [16, 2, 17, 1, 18, 19, 20, 21, 22, 23, 24, 6, 25, 26, 27, 28, 29, 30, 31, 32, 33, 34, 35, 36, 37, 38, 39, 40, 41, 42, 43, 44, 45, 46, 47, 48, 49, 50, 51, 52, 77, 78, 79, 80, 81, 82, 83, 84, 85, 86, 87, 88, 89, 90, 91, 92, 93, 94, 95, 96, 97] (by decide +kernel) (by decide +kernel)
set_option maxRecDepth 20000 in
theorem gX6_wouldPut_X6_layOut : GoodIn wsX6_wouldPut (wsV RX6 156 RX6 yX6_layOut wsX6_layOut) := goodIn_app (goodIn_of _ (by decide +kernel)) ggX6_wouldPut_X6_layOut
set_option maxRecDepth 20000 in
theorem ggX6_wouldPut_X6_overlaps : GoodIn wsX6_wouldPut wsX6_overlaps := goodIn_r _ [56, 1, 26, 27, 28, 6, 29, 30, 31, 32, 33, 34, 35, 36, 37, 38, 39, 40, 41, 42, 43, 44, 77, 78, 79, 80, 81, 82, 83, 84, 85, 86, 87, 88, 89, 90, 91, 92, 93, 94, 95, 96, 97] (by decide +kernel) (by decide +kernel)
set_option maxRecDepth 20000 in
theorem gX6_wouldPut_X6_overlaps : GoodIn wsX6_wouldPut (wsV RX6 124 RX6 yX6_overlaps wsX6_overlaps) := goodIn_app (goodIn_of _ (by decide +kernel)) ggX6_wouldPut_X6_overlaps
set_option maxRecDepth 20000 in
theorem ggX6_wouldPut_X6_isReached : GoodIn wsX6_wouldPut wsX6_isReached := goodIn_r _ [60, 1, 18, 19, 77, 78, 79, 80, 81, 82, 83, 84, 85, 86, 87, 88, 89, 90, 91, 92, 93, 94, 95, 96, 97] (by decide +kernel) (by decide +kernel)
set_option maxRecDepth 20000 in
theorem gX6_wouldPut_X6_isReached : GoodIn wsX6_wouldPut (wsV RX6 159 RX6 yX6_isReached wsX6_isReached) := goodIn_app (goodIn_of _ (by decide +kernel)) ggX6_wouldPut_X6_isReached
set_option maxRecDepth 20000 in
theorem ggX6_wouldPut_X6_partners : GoodIn wsX6_wouldPut wsX6_partners := goodIn_r _ [64, 1, 65, 66, 67, 6, 68, 22, 23, 24, 25, 26, 27, 28, 29, 30, 31, 32, 33, 34, 35, 36, 37, 38, 39, 40, 41, 42, 43, 44, 77, 78, 79, 80, 81, 82, 83, 84, 85, 86, 87, 88, 89, 90, 91, 92, 93, 94, 95, 96, 97] (by decide +kernel) (by decide +kernel)
set_option maxRecDepth 20000 in
theorem gX6_wouldPut_X6_partners : GoodIn wsX6_wouldPut (wsV RX6 127 RX6 yX6_partners wsX6_partners) := goodIn_app (goodIn_of _ (by decide +kernel)) ggX6_wouldPut_X6_partners
set_option maxRecDepth 20000 in
theorem ggX6_wouldPut_X6_joined : GoodIn wsX6_wouldPut wsX6_joined := goodIn_r _ [72, 17, 77, 78, 79, 80, 81, 82, 83, 84, 85, 86, 87, 88, 89, 90, 91, 92, 93, 94, 95, 96, 97] (by decide +kernel) (by decide +kernel)
set_option maxRecDepth 20000 in
theorem gX6_wouldPut_X6_joined : GoodIn wsX6_wouldPut (wsV RX6 222 RX6 yX6_joined wsX6_joined) := goodIn_app (goodIn_of _ (by decide +kernel)) ggX6_wouldPut_X6_joined
set_option maxRecDepth 20000 in
theorem ggX6_wouldPut_X6_putBack : GoodIn wsX6_wouldPut wsX6_putBack := goodIn_r _ [76, 1, 8, 77, 78, 79, 80, 81, 82, 83, 84, 85, 86, 87, 88, 89, 90, 91, 92, 93, 94, 95, 96, 97] (by decide +kernel) (by decide +kernel)
set_option maxRecDepth 20000 in
theorem gX6_wouldPut_X6_putBack : GoodIn wsX6_wouldPut (wsV RX6 231 RX6 yX6_putBack wsX6_putBack) := goodIn_app (goodIn_of _ (by decide +kernel)) ggX6_wouldPut_X6_putBack
theorem dX6_wouldPut_0 : decode cX6_wouldPut 0 = .ok (.aload_n 0, 1) := by decide +kernel
theorem dX6_wouldPut_1 : decode cX6_wouldPut 1 = .ok (.invokevirtual 228, 3) := by decide +kernel
theorem dX6_wouldPut_4 : decode cX6_wouldPut 4 = .ok (.aload_n 0, 1) := by decide +kernel
theorem dX6_wouldPut_5 : decode cX6_wouldPut 5 = .ok (.iload_n 1, 1) := by decide +kernel
theorem dX6_wouldPut_6 : decode cX6_wouldPut 6 = .ok (.iload_n 2, 1) := by decide +kernel
theorem dX6_wouldPut_7 : decode cX6_wouldPut 7 = .ok (.iconst 1, 1) := by decide +kernel
theorem dX6_wouldPut_8 : decode cX6_wouldPut 8 = .ok (.iload_n 3, 1) := by decide +kernel
theorem dX6_wouldPut_9 : decode cX6_wouldPut 9 = .ok (.invokevirtual 104, 3) := by decide +kernel
theorem dX6_wouldPut_12 : decode cX6_wouldPut 12 = .ok (.aload_n 0, 1) := by decide +kernel
theorem dX6_wouldPut_13 : decode cX6_wouldPut 13 = .ok (.invokevirtual 156, 3) := by decide +kernel
theorem dX6_wouldPut_16 : decode cX6_wouldPut 16 = .ok (.aload_n 0, 1) := by decide +kernel
theorem dX6_wouldPut_17 : decode cX6_wouldPut 17 = .ok (.iload_n 1, 1) := by decide +kernel
theorem dX6_wouldPut_18 : decode cX6_wouldPut 18 = .ok (.iload_n 2, 1) := by decide +kernel
theorem dX6_wouldPut_19 : decode cX6_wouldPut 19 = .ok (.invokevirtual 124, 3) := by decide +kernel
theorem dX6_wouldPut_22 : decode cX6_wouldPut 22 = .ok (.istore 5, 2) := by decide +kernel
theorem dX6_wouldPut_24 : decode cX6_wouldPut 24 = .ok (.aload_n 0, 1) := by decide +kernel
theorem dX6_wouldPut_25 : decode cX6_wouldPut 25 = .ok (.invokevirtual 159, 3) := by decide +kernel
theorem dX6_wouldPut_28 : decode cX6_wouldPut 28 = .ok (.ifCond .eq 18, 3) := by decide +kernel
theorem dX6_wouldPut_31 : decode cX6_wouldPut 31 = .ok (.aload_n 0, 1) := by decide +kernel
theorem dX6_wouldPut_32 : decode cX6_wouldPut 32 = .ok (.getfield 7, 3) := by decide +kernel
theorem dX6_wouldPut_35 : decode cX6_wouldPut 35 = .ok (.bipush 55, 2) := by decide +kernel
theorem dX6_wouldPut_37 : decode cX6_wouldPut 37 = .ok (.iaload, 1) := by decide +kernel
theorem dX6_wouldPut_38 : decode cX6_wouldPut 38 = .ok (.iconst (-1), 1) := by decide +kernel
theorem dX6_wouldPut_39 : decode cX6_wouldPut 39 = .ok (.if_icmp .eq 7, 3) := by decide +kernel
theorem dX6_wouldPut_42 : decode cX6_wouldPut 42 = .ok (.iconst 1, 1) := by decide +kernel
theorem dX6_wouldPut_43 : decode cX6_wouldPut 43 = .ok (.goto 4, 3) := by decide +kernel
theorem dX6_wouldPut_46 : decode cX6_wouldPut 46 = .ok (.iconst 0, 1) := by decide +kernel
theorem dX6_wouldPut_47 : decode cX6_wouldPut 47 = .ok (.istore 6, 2) := by decide +kernel
theorem dX6_wouldPut_49 : decode cX6_wouldPut 49 = .ok (.iload 4, 2) := by decide +kernel
theorem dX6_wouldPut_51 : decode cX6_wouldPut 51 = .ok (.ifCond .ne 23, 3) := by decide +kernel
theorem dX6_wouldPut_54 : decode cX6_wouldPut 54 = .ok (.iload 5, 2) := by decide +kernel
theorem dX6_wouldPut_56 : decode cX6_wouldPut 56 = .ok (.ifCond .le 7, 3) := by decide +kernel
theorem dX6_wouldPut_59 : decode cX6_wouldPut 59 = .ok (.iconst (-1), 1) := by decide +kernel
theorem dX6_wouldPut_60 : decode cX6_wouldPut 60 = .ok (.goto 58, 3) := by decide +kernel
theorem dX6_wouldPut_63 : decode cX6_wouldPut 63 = .ok (.aload_n 0, 1) := by decide +kernel
theorem dX6_wouldPut_64 : decode cX6_wouldPut 64 = .ok (.iload_n 1, 1) := by decide +kernel
theorem dX6_wouldPut_65 : decode cX6_wouldPut 65 = .ok (.iconst 1, 1) := by decide +kernel
theorem dX6_wouldPut_66 : decode cX6_wouldPut 66 = .ok (.iload_n 2, 1) := by decide +kernel
theorem dX6_wouldPut_67 : decode cX6_wouldPut 67 = .ok (.ishl, 1) := by decide +kernel
theorem dX6_wouldPut_68 : decode cX6_wouldPut 68 = .ok (.invokevirtual 127, 3) := by decide +kernel
theorem dX6_wouldPut_71 : decode cX6_wouldPut 71 = .ok (.goto 47, 3) := by decide +kernel
theorem dX6_wouldPut_74 : decode cX6_wouldPut 74 = .ok (.iload 4, 2) := by decide +kernel
theorem dX6_wouldPut_76 : decode cX6_wouldPut 76 = .ok (.iconst 1, 1) := by decide +kernel
theorem dX6_wouldPut_77 : decode cX6_wouldPut 77 = .ok (.if_icmp .ne 18, 3) := by decide +kernel
theorem dX6_wouldPut_80 : decode cX6_wouldPut 80 = .ok (.aload_n 0, 1) := by decide +kernel
theorem dX6_wouldPut_81 : decode cX6_wouldPut 81 = .ok (.getfield 89, 3) := by decide +kernel
theorem dX6_wouldPut_84 : decode cX6_wouldPut 84 = .ok (.ifCond .eq 7, 3) := by decide +kernel
theorem dX6_wouldPut_87 : decode cX6_wouldPut 87 = .ok (.iconst 1, 1) := by decide +kernel
theorem dX6_wouldPut_88 : decode cX6_wouldPut 88 = .ok (.goto 30, 3) := by decide +kernel
theorem dX6_wouldPut_91 : decode cX6_wouldPut 91 = .ok (.iconst 0, 1) := by decide +kernel
theorem dX6_wouldPut_92 : decode cX6_wouldPut 92 = .ok (.goto 26, 3) := by decide +kernel
theorem dX6_wouldPut_95 : decode cX6_wouldPut 95 = .ok (.iload 4, 2) := by decide +kernel
theorem dX6_wouldPut_97 : decode cX6_wouldPut 97 = .ok (.iconst 2, 1) := by decide +kernel
theorem dX6_wouldPut_98 : decode cX6_wouldPut 98 = .ok (.if_icmp .ne 10, 3) := by decide +kernel
theorem dX6_wouldPut_101 : decode cX6_wouldPut 101 = .ok (.aload_n 0, 1) := by decide +kernel
theorem dX6_wouldPut_102 : decode cX6_wouldPut 102 = .ok (.invokevirtual 222, 3) := by decide +kernel
theorem dX6_wouldPut_105 : decode cX6_wouldPut 105 = .ok (.goto 13, 3) := by decide +kernel
theorem dX6_wouldPut_108 : decode cX6_wouldPut 108 = .ok (.iload 6, 2) := by decide +kernel
theorem dX6_wouldPut_110 : decode cX6_wouldPut 110 = .ok (.ifCond .eq 7, 3) := by decide +kernel
theorem dX6_wouldPut_113 : decode cX6_wouldPut 113 = .ok (.iconst 1, 1) := by decide +kernel
theorem dX6_wouldPut_114 : decode cX6_wouldPut 114 = .ok (.goto 4, 3) := by decide +kernel
theorem dX6_wouldPut_117 : decode cX6_wouldPut 117 = .ok (.iconst 0, 1) := by decide +kernel
theorem dX6_wouldPut_118 : decode cX6_wouldPut 118 = .ok (.istore 7, 2) := by decide +kernel
theorem dX6_wouldPut_120 : decode cX6_wouldPut 120 = .ok (.aload_n 0, 1) := by decide +kernel
theorem dX6_wouldPut_121 : decode cX6_wouldPut 121 = .ok (.invokevirtual 231, 3) := by decide +kernel
theorem dX6_wouldPut_124 : decode cX6_wouldPut 124 = .ok (.iload 7, 2) := by decide +kernel
theorem dX6_wouldPut_126 : decode cX6_wouldPut 126 = .ok (.ireturn, 1) := by decide +kernel
set_option maxRecDepth 20000 in
theorem ggX6_ifPut_X6_isPeg : GoodIn wsX6_ifPut wsX6_isPeg := goodIn_r _ [5, 6, 7, 8, 4, 9, 93, 94, 95, 96, 97, 98, 99, 100, 101, 102, 103, 104, 105, 106, 107, 108, 109, 110, 111, 112, 113] (by decide +kernel) (by decide +kernel)
set_option maxRecDepth 20000 in
theorem gX6_ifPut_X6_isPeg : GoodIn wsX6_ifPut (wsV RX6 121 RX6 yX6_isPeg wsX6_isPeg) := goodIn_app (goodIn_of _ (by decide +kernel)) ggX6_ifPut_X6_isPeg
set_option maxRecDepth 20000 in
theorem ggX6_ifPut_X6_in : GoodIn wsX6_ifPut wsX6_in := goodIn_r _ [9] (by decide +kernel) (by decide +kernel)
set_option maxRecDepth 20000 in
theorem gX6_ifPut_X6_in : GoodIn wsX6_ifPut (va_wsS RX6 46 yX6_in wsX6_in) := goodIn_app (goodIn_of _ (by decide +kernel)) ggX6_ifPut_X6_in
set_option maxRecDepth 20000 in
theorem ggX6_ifPut_X6_holds : GoodIn wsX6_ifPut wsX6_holds := goodIn_r _ [13, 14, 93, 94, 95, 96, 97, 98, 99, 100, 101, 102, 103, 104, 105, 106, 107, 108, 109, 110, 111, 112, 113] (by decide +kernel) (by decide +kernel)
set_option maxRecDepth 20000 in
theorem gX6_ifPut_X6_holds : GoodIn wsX6_ifPut (wsV RX6 111 RX6 yX6_holds wsX6_holds) := goodIn_app (goodIn_of _ (by decide +kernel)) ggX6_ifPut_X6_holds
set_option maxRecDepth 20000 in
theorem ggX6_ifPut_X6_wouldPut : GoodIn wsX6_ifPut wsX6_wouldPut := goodIn_r _ [18, 6, 19, 20, 21, 22, 4, 23, 24, 25, 26, 27, 28, 29, 30, 31, 32, 33, 34, 35, 36, 37, 38, 39, 40, 41, 42, 43, 44, 45, 46, 47, 48, 49, 50, 51, 52, 53, 54, 55, 56, 57, 58, 59, 60, 61, 62, 63, 64, 65, 66, 67, 68, 69, 70, 71, 72, 73, 74, 75, 76, 77, 78, 79, 80, 81, 82, 83, 84, 85, 86, 87, 88, 89, 90, 91, 92, 93, 94, 95, 96, 97, 98, 99, 100, 101, 102, 103, 104, 105, 106, 107, 108, 109, 110, 111, 112, 113] (by decide +kernel) (by decide +kernel)
set_option maxRecDepth 20000 in
theorem gX6_ifPut_X6_wouldPut : GoodIn wsX6_ifPut (wsV RX6 234 RX6 yX6_wouldPut wsX6_wouldPut) := goodIn_app (goodIn_of _ (by decide +kernel)) ggX6_ifPut_X6_wouldPut
theorem dX6_ifPut_0 : decode cX6_ifPut 0 = .ok (.aload_n 0, 1) := by decide +kernel
theorem dX6_ifPut_1 : decode cX6_ifPut 1 = .ok (.iload_n 1, 1) := by decide +kernel
theorem dX6_ifPut_2 : decode cX6_ifPut 2 = .ok (.invokevirtual 121, 3) := by decide +kernel
theorem dX6_ifPut_5 : decode cX6_ifPut 5 = .ok (.ifCond .ne 7, 3) := by decide +kernel
theorem dX6_ifPut_8 : decode cX6_ifPut 8 = .ok (.iconst 1, 1) := by decide +kernel
theorem dX6_ifPut_9 : decode cX6_ifPut 9 = .ok (.goto 37, 3) := by decide +kernel
theorem dX6_ifPut_12 : decode cX6_ifPut 12 = .ok (.iload_n 2, 1) := by decide +kernel
theorem dX6_ifPut_13 : decode cX6_ifPut 13 = .ok (.iconst 0, 1) := by decide +kernel
theorem dX6_ifPut_14 : decode cX6_ifPut 14 = .ok (.iconst 1, 1) := by decide +kernel
theorem dX6_ifPut_15 : decode cX6_ifPut 15 = .ok (.invokestatic 46, 3) := by decide +kernel
theorem dX6_ifPut_18 : decode cX6_ifPut 18 = .ok (.ifCond .eq 23, 3) := by decide +kernel
theorem dX6_ifPut_21 : decode cX6_ifPut 21 = .ok (.iload_n 3, 1) := by decide +kernel
theorem dX6_ifPut_22 : decode cX6_ifPut 22 = .ok (.iconst 0, 1) := by decide +kernel
theorem dX6_ifPut_23 : decode cX6_ifPut 23 = .ok (.bipush 20, 2) := by decide +kernel
theorem dX6_ifPut_25 : decode cX6_ifPut 25 = .ok (.invokestatic 46, 3) := by decide +kernel
theorem dX6_ifPut_28 : decode cX6_ifPut 28 = .ok (.ifCond .eq 13, 3) := by decide +kernel
theorem dX6_ifPut_31 : decode cX6_ifPut 31 = .ok (.iload 4, 2) := by decide +kernel
theorem dX6_ifPut_33 : decode cX6_ifPut 33 = .ok (.iconst 0, 1) := by decide +kernel
theorem dX6_ifPut_34 : decode cX6_ifPut 34 = .ok (.iconst 3, 1) := by decide +kernel
theorem dX6_ifPut_35 : decode cX6_ifPut 35 = .ok (.invokestatic 46, 3) := by decide +kernel
theorem dX6_ifPut_38 : decode cX6_ifPut 38 = .ok (.ifCond .ne 7, 3) := by decide +kernel
theorem dX6_ifPut_41 : decode cX6_ifPut 41 = .ok (.iconst 2, 1) := by decide +kernel
theorem dX6_ifPut_42 : decode cX6_ifPut 42 = .ok (.goto 4, 3) := by decide +kernel
theorem dX6_ifPut_45 : decode cX6_ifPut 45 = .ok (.iconst 0, 1) := by decide +kernel
theorem dX6_ifPut_46 : decode cX6_ifPut 46 = .ok (.istore 5, 2) := by decide +kernel
theorem dX6_ifPut_48 : decode cX6_ifPut 48 = .ok (.aload_n 0, 1) := by decide +kernel
theorem dX6_ifPut_49 : decode cX6_ifPut 49 = .ok (.iload 5, 2) := by decide +kernel

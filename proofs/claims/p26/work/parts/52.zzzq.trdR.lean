theorem dX12_mayTrade_0 : decode cX12_mayTrade 0 = .ok (.iconst 0, 1) := DX12_mayTrade _ _ _ rfl
theorem dX12_mayTrade_1 : decode cX12_mayTrade 1 = .ok (.istore 5, 2) := DX12_mayTrade _ _ _ rfl
theorem dX12_mayTrade_3 : decode cX12_mayTrade 3 = .ok (.iload 5, 2) := DX12_mayTrade _ _ _ rfl
theorem dX12_mayTrade_5 : decode cX12_mayTrade 5 = .ok (.aload_n 0, 1) := DX12_mayTrade _ _ _ rfl
theorem dX12_mayTrade_6 : decode cX12_mayTrade 6 = .ok (.getfield 17, 3) := DX12_mayTrade _ _ _ rfl
theorem dX12_mayTrade_9 : decode cX12_mayTrade 9 = .ok (.iload_n 1, 1) := DX12_mayTrade _ _ _ rfl
theorem dX12_mayTrade_10 : decode cX12_mayTrade 10 = .ok (.iaload, 1) := DX12_mayTrade _ _ _ rfl
theorem dX12_mayTrade_11 : decode cX12_mayTrade 11 = .ok (.if_icmp .ge 58, 3) := DX12_mayTrade _ _ _ rfl
theorem dX12_mayTrade_69 : decode cX12_mayTrade 69 = .ok (.iconst 0, 1) := DX12_mayTrade _ _ _ rfl
theorem dX12_mayTrade_70 : decode cX12_mayTrade 70 = .ok (.ireturn, 1) := DX12_mayTrade _ _ _ rfl
theorem dX12_mayTrade_14 : decode cX12_mayTrade 14 = .ok (.aload_n 0, 1) := DX12_mayTrade _ _ _ rfl
theorem dX12_mayTrade_15 : decode cX12_mayTrade 15 = .ok (.getfield 47, 3) := DX12_mayTrade _ _ _ rfl
theorem dX12_mayTrade_18 : decode cX12_mayTrade 18 = .ok (.bipush 12, 2) := DX12_mayTrade _ _ _ rfl
theorem dX12_mayTrade_20 : decode cX12_mayTrade 20 = .ok (.iload_n 1, 1) := DX12_mayTrade _ _ _ rfl
theorem dX12_mayTrade_21 : decode cX12_mayTrade 21 = .ok (.imul, 1) := DX12_mayTrade _ _ _ rfl
theorem dX12_mayTrade_22 : decode cX12_mayTrade 22 = .ok (.iload 5, 2) := DX12_mayTrade _ _ _ rfl
theorem dX12_mayTrade_24 : decode cX12_mayTrade 24 = .ok (.iadd, 1) := DX12_mayTrade _ _ _ rfl
theorem dX12_mayTrade_25 : decode cX12_mayTrade 25 = .ok (.baload, 1) := DX12_mayTrade _ _ _ rfl
theorem dX12_mayTrade_26 : decode cX12_mayTrade 26 = .ok (.ifCond .ne 37, 3) := DX12_mayTrade _ _ _ rfl
theorem dX12_mayTrade_63 : decode cX12_mayTrade 63 = .ok (.iinc 5 1, 3) := DX12_mayTrade _ _ _ rfl
theorem dX12_mayTrade_66 : decode cX12_mayTrade 66 = .ok (.goto (-63), 3) := DX12_mayTrade _ _ _ rfl
theorem dX12_mayTrade_29 : decode cX12_mayTrade 29 = .ok (.aload_n 0, 1) := DX12_mayTrade _ _ _ rfl
theorem dX12_mayTrade_30 : decode cX12_mayTrade 30 = .ok (.bipush 12, 2) := DX12_mayTrade _ _ _ rfl
theorem dX12_mayTrade_32 : decode cX12_mayTrade 32 = .ok (.iload_n 1, 1) := DX12_mayTrade _ _ _ rfl
theorem dX12_mayTrade_33 : decode cX12_mayTrade 33 = .ok (.imul, 1) := DX12_mayTrade _ _ _ rfl
theorem dX12_mayTrade_34 : decode cX12_mayTrade 34 = .ok (.iload 5, 2) := DX12_mayTrade _ _ _ rfl
theorem dX12_mayTrade_36 : decode cX12_mayTrade 36 = .ok (.iadd, 1) := DX12_mayTrade _ _ _ rfl
theorem dX12_mayTrade_37 : decode cX12_mayTrade 37 = .ok (.iload_n 2, 1) := DX12_mayTrade _ _ _ rfl
theorem dX12_mayTrade_38 : decode cX12_mayTrade 38 = .ok (.iload_n 3, 1) := DX12_mayTrade _ _ _ rfl
theorem dX12_mayTrade_39 : decode cX12_mayTrade 39 = .ok (.invokevirtual 231, 3) := DX12_mayTrade _ _ _ rfl
theorem dX12_mayTrade_42 : decode cX12_mayTrade 42 = .ok (.ifCond .eq 21, 3) := DX12_mayTrade _ _ _ rfl
theorem dX12_mayTrade_45 : decode cX12_mayTrade 45 = .ok (.aload_n 0, 1) := DX12_mayTrade _ _ _ rfl
theorem dX12_mayTrade_46 : decode cX12_mayTrade 46 = .ok (.bipush 12, 2) := DX12_mayTrade _ _ _ rfl
theorem dX12_mayTrade_48 : decode cX12_mayTrade 48 = .ok (.iload_n 1, 1) := DX12_mayTrade _ _ _ rfl
theorem dX12_mayTrade_49 : decode cX12_mayTrade 49 = .ok (.imul, 1) := DX12_mayTrade _ _ _ rfl
theorem dX12_mayTrade_50 : decode cX12_mayTrade 50 = .ok (.iload 5, 2) := DX12_mayTrade _ _ _ rfl
theorem dX12_mayTrade_52 : decode cX12_mayTrade 52 = .ok (.iadd, 1) := DX12_mayTrade _ _ _ rfl
theorem dX12_mayTrade_53 : decode cX12_mayTrade 53 = .ok (.iload 4, 2) := DX12_mayTrade _ _ _ rfl
theorem dX12_mayTrade_55 : decode cX12_mayTrade 55 = .ok (.invokevirtual 234, 3) := DX12_mayTrade _ _ _ rfl
theorem dX12_mayTrade_58 : decode cX12_mayTrade 58 = .ok (.ifCond .eq 5, 3) := DX12_mayTrade _ _ _ rfl
theorem dX12_mayTrade_61 : decode cX12_mayTrade 61 = .ok (.iconst 1, 1) := DX12_mayTrade _ _ _ rfl
theorem dX12_mayTrade_62 : decode cX12_mayTrade 62 = .ok (.ireturn, 1) := DX12_mayTrade _ _ _ rfl
theorem dX12_traded_0 : decode cX12_traded 0 = .ok (.iload_n 0, 1) := DX12_traded _ _ _ rfl
theorem dX12_traded_1 : decode cX12_traded 1 = .ok (.iconst 4, 1) := DX12_traded _ _ _ rfl
theorem dX12_traded_2 : decode cX12_traded 2 = .ok (.iload_n 1, 1) := DX12_traded _ _ _ rfl
theorem dX12_traded_3 : decode cX12_traded 3 = .ok (.imul, 1) := DX12_traded _ _ _ rfl
theorem dX12_traded_4 : decode cX12_traded 4 = .ok (.ishr, 1) := DX12_traded _ _ _ rfl
theorem dX12_traded_5 : decode cX12_traded 5 = .ok (.iload_n 0, 1) := DX12_traded _ _ _ rfl
theorem dX12_traded_6 : decode cX12_traded 6 = .ok (.iconst 4, 1) := DX12_traded _ _ _ rfl
theorem dX12_traded_7 : decode cX12_traded 7 = .ok (.iload_n 2, 1) := DX12_traded _ _ _ rfl
theorem dX12_traded_8 : decode cX12_traded 8 = .ok (.imul, 1) := DX12_traded _ _ _ rfl
theorem dX12_traded_9 : decode cX12_traded 9 = .ok (.ishr, 1) := DX12_traded _ _ _ rfl
theorem dX12_traded_10 : decode cX12_traded 10 = .ok (.ior, 1) := DX12_traded _ _ _ rfl
theorem dX12_traded_11 : decode cX12_traded 11 = .ok (.bipush 15, 2) := DX12_traded _ _ _ rfl
theorem dX12_traded_13 : decode cX12_traded 13 = .ok (.iand, 1) := DX12_traded _ _ _ rfl
theorem dX12_traded_14 : decode cX12_traded 14 = .ok (.istore_n 3, 1) := DX12_traded _ _ _ rfl
theorem dX12_traded_15 : decode cX12_traded 15 = .ok (.iload_n 0, 1) := DX12_traded _ _ _ rfl
theorem dX12_traded_16 : decode cX12_traded 16 = .ok (.iload_n 3, 1) := DX12_traded _ _ _ rfl
theorem dX12_traded_17 : decode cX12_traded 17 = .ok (.iconst 4, 1) := DX12_traded _ _ _ rfl
theorem dX12_traded_18 : decode cX12_traded 18 = .ok (.iload_n 1, 1) := DX12_traded _ _ _ rfl
theorem dX12_traded_19 : decode cX12_traded 19 = .ok (.imul, 1) := DX12_traded _ _ _ rfl
theorem dX12_traded_20 : decode cX12_traded 20 = .ok (.ishl, 1) := DX12_traded _ _ _ rfl
theorem dX12_traded_21 : decode cX12_traded 21 = .ok (.ior, 1) := DX12_traded _ _ _ rfl
theorem dX12_traded_22 : decode cX12_traded 22 = .ok (.iload_n 3, 1) := DX12_traded _ _ _ rfl
theorem dX12_traded_23 : decode cX12_traded 23 = .ok (.iconst 4, 1) := DX12_traded _ _ _ rfl
theorem dX12_traded_24 : decode cX12_traded 24 = .ok (.iload_n 2, 1) := DX12_traded _ _ _ rfl
theorem dX12_traded_25 : decode cX12_traded 25 = .ok (.imul, 1) := DX12_traded _ _ _ rfl
theorem dX12_traded_26 : decode cX12_traded 26 = .ok (.ishl, 1) := DX12_traded _ _ _ rfl
theorem dX12_traded_27 : decode cX12_traded 27 = .ok (.ior, 1) := DX12_traded _ _ _ rfl
theorem dX12_traded_28 : decode cX12_traded 28 = .ok (.ireturn, 1) := DX12_traded _ _ _ rfl
theorem dX12_meet_0 : decode cX12_meet 0 = .ok (.aload_n 0, 1) := DX12_meet _ _ _ rfl
theorem dX12_meet_1 : decode cX12_meet 1 = .ok (.getfield 117, 3) := DX12_meet _ _ _ rfl
theorem dX12_meet_4 : decode cX12_meet 4 = .ok (.iload_n 1, 1) := DX12_meet _ _ _ rfl
theorem dX12_meet_5 : decode cX12_meet 5 = .ok (.aload_n 0, 1) := DX12_meet _ _ _ rfl
theorem dX12_meet_6 : decode cX12_meet 6 = .ok (.getfield 117, 3) := DX12_meet _ _ _ rfl
theorem dX12_meet_9 : decode cX12_meet 9 = .ok (.iload_n 1, 1) := DX12_meet _ _ _ rfl
theorem dX12_meet_10 : decode cX12_meet 10 = .ok (.iaload, 1) := DX12_meet _ _ _ rfl
theorem dX12_meet_11 : decode cX12_meet 11 = .ok (.iload_n 2, 1) := DX12_meet _ _ _ rfl
theorem mm_X12_12 : (Cond.methodLink "NoonValleyModel" 296 Lib.Math.min.name) ∈ BW := bw (tb7 189 rfl) (by decide +kernel)
theorem dX12_meet_12 : decode cX12_meet 12 = .ok (.invokestatic 296, 3) := DX12_meet _ _ _ rfl
theorem dX12_meet_15 : decode cX12_meet 15 = .ok (.iastore, 1) := DX12_meet _ _ _ rfl
theorem dX12_meet_16 : decode cX12_meet 16 = .ok (.return_, 1) := DX12_meet _ _ _ rfl
theorem dX12_layTrades_221 : decode cX12_layTrades 221 = .ok (.iload 10, 2) := DX12_layTrades _ _ _ rfl
theorem dX12_layTrades_223 : decode cX12_layTrades 223 = .ok (.iload 7, 2) := DX12_layTrades _ _ _ rfl
theorem dX12_layTrades_225 : decode cX12_layTrades 225 = .ok (.if_icmp .eq 10, 3) := DX12_layTrades _ _ _ rfl
theorem dX12_layTrades_235 : decode cX12_layTrades 235 = .ok (.iinc 10 1, 3) := DX12_layTrades _ _ _ rfl
theorem dX12_layTrades_238 : decode cX12_layTrades 238 = .ok (.goto (-17), 3) := DX12_layTrades _ _ _ rfl
theorem dX12_layTrades_228 : decode cX12_layTrades 228 = .ok (.iload 10, 2) := DX12_layTrades _ _ _ rfl
theorem dX12_layTrades_230 : decode cX12_layTrades 230 = .ok (.iload 8, 2) := DX12_layTrades _ _ _ rfl
theorem dX12_layTrades_232 : decode cX12_layTrades 232 = .ok (.if_icmp .ne 9, 3) := DX12_layTrades _ _ _ rfl
theorem dX12_layTrades_241 : decode cX12_layTrades 241 = .ok (.iload 10, 2) := DX12_layTrades _ _ _ rfl
theorem dX12_layTrades_243 : decode cX12_layTrades 243 = .ok (.iconst 1, 1) := DX12_layTrades _ _ _ rfl
theorem dX12_layTrades_244 : decode cX12_layTrades 244 = .ok (.iadd, 1) := DX12_layTrades _ _ _ rfl
theorem dX12_layTrades_245 : decode cX12_layTrades 245 = .ok (.istore 11, 2) := DX12_layTrades _ _ _ rfl
theorem dX12_layTrades_247 : decode cX12_layTrades 247 = .ok (.iload 11, 2) := DX12_layTrades _ _ _ rfl
theorem dX12_layTrades_249 : decode cX12_layTrades 249 = .ok (.iload 7, 2) := DX12_layTrades _ _ _ rfl
theorem dX12_layTrades_251 : decode cX12_layTrades 251 = .ok (.if_icmp .eq 10, 3) := DX12_layTrades _ _ _ rfl
theorem dX12_layTrades_254 : decode cX12_layTrades 254 = .ok (.iload 11, 2) := DX12_layTrades _ _ _ rfl
theorem dX12_layTrades_256 : decode cX12_layTrades 256 = .ok (.iload 8, 2) := DX12_layTrades _ _ _ rfl
theorem dX12_layTrades_258 : decode cX12_layTrades 258 = .ok (.if_icmp .ne 9, 3) := DX12_layTrades _ _ _ rfl
theorem dX12_layTrades_261 : decode cX12_layTrades 261 = .ok (.iinc 11 1, 3) := DX12_layTrades _ _ _ rfl
theorem dX12_layTrades_264 : decode cX12_layTrades 264 = .ok (.goto (-17), 3) := DX12_layTrades _ _ _ rfl
theorem dX12_layTrades_0 : decode cX12_layTrades 0 = .ok (.aload_n 0, 1) := DX12_layTrades _ _ _ rfl
theorem dX12_layTrades_1 : decode cX12_layTrades 1 = .ok (.getfield 13, 3) := DX12_layTrades _ _ _ rfl
theorem dX12_layTrades_4 : decode cX12_layTrades 4 = .ok (.iload_n 1, 1) := DX12_layTrades _ _ _ rfl
theorem dX12_layTrades_5 : decode cX12_layTrades 5 = .ok (.iaload, 1) := DX12_layTrades _ _ _ rfl
theorem dX12_layTrades_6 : decode cX12_layTrades 6 = .ok (.istore_n 2, 1) := DX12_layTrades _ _ _ rfl
theorem dX12_layTrades_7 : decode cX12_layTrades 7 = .ok (.iconst 0, 1) := DX12_layTrades _ _ _ rfl
theorem dX12_layTrades_8 : decode cX12_layTrades 8 = .ok (.istore_n 3, 1) := DX12_layTrades _ _ _ rfl
theorem dX12_layTrades_9 : decode cX12_layTrades 9 = .ok (.iload_n 3, 1) := DX12_layTrades _ _ _ rfl
theorem dX12_layTrades_10 : decode cX12_layTrades 10 = .ok (.aload_n 0, 1) := DX12_layTrades _ _ _ rfl
theorem dX12_layTrades_11 : decode cX12_layTrades 11 = .ok (.getfield 114, 3) := DX12_layTrades _ _ _ rfl
theorem dX12_layTrades_14 : decode cX12_layTrades 14 = .ok (.arraylength, 1) := DX12_layTrades _ _ _ rfl
theorem dX12_layTrades_15 : decode cX12_layTrades 15 = .ok (.if_icmp .ge 17, 3) := DX12_layTrades _ _ _ rfl
theorem dX12_layTrades_32 : decode cX12_layTrades 32 = .ok (.iconst 0, 1) := DX12_layTrades _ _ _ rfl
theorem dX12_layTrades_33 : decode cX12_layTrades 33 = .ok (.istore_n 3, 1) := DX12_layTrades _ _ _ rfl
theorem dX12_layTrades_34 : decode cX12_layTrades 34 = .ok (.iconst 0, 1) := DX12_layTrades _ _ _ rfl
theorem dX12_layTrades_35 : decode cX12_layTrades 35 = .ok (.istore 4, 2) := DX12_layTrades _ _ _ rfl
theorem dX12_layTrades_37 : decode cX12_layTrades 37 = .ok (.iconst 0, 1) := DX12_layTrades _ _ _ rfl
theorem dX12_layTrades_38 : decode cX12_layTrades 38 = .ok (.istore 5, 2) := DX12_layTrades _ _ _ rfl
theorem dX12_layTrades_40 : decode cX12_layTrades 40 = .ok (.iload 5, 2) := DX12_layTrades _ _ _ rfl
theorem dX12_layTrades_42 : decode cX12_layTrades 42 = .ok (.iload_n 2, 1) := DX12_layTrades _ _ _ rfl
theorem dX12_layTrades_43 : decode cX12_layTrades 43 = .ok (.if_icmp .ge 33, 3) := DX12_layTrades _ _ _ rfl
theorem dX12_layTrades_76 : decode cX12_layTrades 76 = .ok (.aload_n 0, 1) := DX12_layTrades _ _ _ rfl
theorem dX12_layTrades_77 : decode cX12_layTrades 77 = .ok (.getfield 114, 3) := DX12_layTrades _ _ _ rfl
theorem dX12_layTrades_80 : decode cX12_layTrades 80 = .ok (.iload_n 3, 1) := DX12_layTrades _ _ _ rfl
theorem dX12_layTrades_81 : decode cX12_layTrades 81 = .ok (.iconst 0, 1) := DX12_layTrades _ _ _ rfl
theorem dX12_layTrades_82 : decode cX12_layTrades 82 = .ok (.iastore, 1) := DX12_layTrades _ _ _ rfl
theorem dX12_layTrades_83 : decode cX12_layTrades 83 = .ok (.iconst 1, 1) := DX12_layTrades _ _ _ rfl
theorem dX12_layTrades_84 : decode cX12_layTrades 84 = .ok (.istore 5, 2) := DX12_layTrades _ _ _ rfl
theorem dX12_layTrades_86 : decode cX12_layTrades 86 = .ok (.iload 5, 2) := DX12_layTrades _ _ _ rfl
theorem dX12_layTrades_88 : decode cX12_layTrades 88 = .ok (.bipush 8, 2) := DX12_layTrades _ _ _ rfl
theorem dX12_layTrades_90 : decode cX12_layTrades 90 = .ok (.if_icmp .gt 290, 3) := DX12_layTrades _ _ _ rfl
theorem dX12_layTrades_380 : decode cX12_layTrades 380 = .ok (.return_, 1) := DX12_layTrades _ _ _ rfl
theorem dX12_layTrades_93 : decode cX12_layTrades 93 = .ok (.iconst 0, 1) := DX12_layTrades _ _ _ rfl
theorem dX12_layTrades_94 : decode cX12_layTrades 94 = .ok (.istore 6, 2) := DX12_layTrades _ _ _ rfl
theorem dX12_layTrades_96 : decode cX12_layTrades 96 = .ok (.iload 6, 2) := DX12_layTrades _ _ _ rfl
theorem dX12_layTrades_98 : decode cX12_layTrades 98 = .ok (.aload_n 0, 1) := DX12_layTrades _ _ _ rfl
theorem dX12_layTrades_99 : decode cX12_layTrades 99 = .ok (.getfield 114, 3) := DX12_layTrades _ _ _ rfl
theorem dX12_layTrades_102 : decode cX12_layTrades 102 = .ok (.arraylength, 1) := DX12_layTrades _ _ _ rfl
theorem dX12_layTrades_103 : decode cX12_layTrades 103 = .ok (.if_icmp .ge 23, 3) := DX12_layTrades _ _ _ rfl
theorem dX12_layTrades_126 : decode cX12_layTrades 126 = .ok (.iconst 0, 1) := DX12_layTrades _ _ _ rfl
theorem dX12_layTrades_127 : decode cX12_layTrades 127 = .ok (.istore 6, 2) := DX12_layTrades _ _ _ rfl
theorem dX12_layTrades_129 : decode cX12_layTrades 129 = .ok (.iload 6, 2) := DX12_layTrades _ _ _ rfl
theorem dX12_layTrades_131 : decode cX12_layTrades 131 = .ok (.aload_n 0, 1) := DX12_layTrades _ _ _ rfl
theorem dX12_layTrades_132 : decode cX12_layTrades 132 = .ok (.getfield 114, 3) := DX12_layTrades _ _ _ rfl
theorem dX12_layTrades_135 : decode cX12_layTrades 135 = .ok (.arraylength, 1) := DX12_layTrades _ _ _ rfl
theorem dX12_layTrades_136 : decode cX12_layTrades 136 = .ok (.if_icmp .ge 191, 3) := DX12_layTrades _ _ _ rfl
theorem dX12_layTrades_327 : decode cX12_layTrades 327 = .ok (.iconst 0, 1) := DX12_layTrades _ _ _ rfl
theorem dX12_layTrades_328 : decode cX12_layTrades 328 = .ok (.istore 6, 2) := DX12_layTrades _ _ _ rfl
theorem dX12_layTrades_330 : decode cX12_layTrades 330 = .ok (.iload 6, 2) := DX12_layTrades _ _ _ rfl
theorem dX12_layTrades_332 : decode cX12_layTrades 332 = .ok (.aload_n 0, 1) := DX12_layTrades _ _ _ rfl
theorem dX12_layTrades_333 : decode cX12_layTrades 333 = .ok (.getfield 114, 3) := DX12_layTrades _ _ _ rfl
theorem dX12_layTrades_336 : decode cX12_layTrades 336 = .ok (.arraylength, 1) := DX12_layTrades _ _ _ rfl
theorem dX12_layTrades_337 : decode cX12_layTrades 337 = .ok (.if_icmp .ge 23, 3) := DX12_layTrades _ _ _ rfl
theorem dX12_layTrades_360 : decode cX12_layTrades 360 = .ok (.aload_n 0, 1) := DX12_layTrades _ _ _ rfl
theorem dX12_layTrades_361 : decode cX12_layTrades 361 = .ok (.getfield 120, 3) := DX12_layTrades _ _ _ rfl
theorem dX12_layTrades_364 : decode cX12_layTrades 364 = .ok (.iload 5, 2) := DX12_layTrades _ _ _ rfl
theorem dX12_layTrades_366 : decode cX12_layTrades 366 = .ok (.aload_n 0, 1) := DX12_layTrades _ _ _ rfl
theorem dX12_layTrades_367 : decode cX12_layTrades 367 = .ok (.getfield 114, 3) := DX12_layTrades _ _ _ rfl
theorem dX12_layTrades_370 : decode cX12_layTrades 370 = .ok (.iload 4, 2) := DX12_layTrades _ _ _ rfl
theorem dX12_layTrades_372 : decode cX12_layTrades 372 = .ok (.iaload, 1) := DX12_layTrades _ _ _ rfl
theorem dX12_layTrades_373 : decode cX12_layTrades 373 = .ok (.iastore, 1) := DX12_layTrades _ _ _ rfl
theorem dX12_layTrades_374 : decode cX12_layTrades 374 = .ok (.iinc 5 1, 3) := DX12_layTrades _ _ _ rfl
theorem dX12_layTrades_377 : decode cX12_layTrades 377 = .ok (.goto (-291), 3) := DX12_layTrades _ _ _ rfl
theorem dX12_layTrades_340 : decode cX12_layTrades 340 = .ok (.aload_n 0, 1) := DX12_layTrades _ _ _ rfl
theorem dX12_layTrades_341 : decode cX12_layTrades 341 = .ok (.getfield 114, 3) := DX12_layTrades _ _ _ rfl
theorem dX12_layTrades_344 : decode cX12_layTrades 344 = .ok (.iload 6, 2) := DX12_layTrades _ _ _ rfl
theorem dX12_layTrades_346 : decode cX12_layTrades 346 = .ok (.aload_n 0, 1) := DX12_layTrades _ _ _ rfl
theorem dX12_layTrades_347 : decode cX12_layTrades 347 = .ok (.getfield 117, 3) := DX12_layTrades _ _ _ rfl
theorem dX12_layTrades_350 : decode cX12_layTrades 350 = .ok (.iload 6, 2) := DX12_layTrades _ _ _ rfl
theorem dX12_layTrades_352 : decode cX12_layTrades 352 = .ok (.iaload, 1) := DX12_layTrades _ _ _ rfl
theorem dX12_layTrades_353 : decode cX12_layTrades 353 = .ok (.iastore, 1) := DX12_layTrades _ _ _ rfl
theorem dX12_layTrades_354 : decode cX12_layTrades 354 = .ok (.iinc 6 1, 3) := DX12_layTrades _ _ _ rfl
theorem dX12_layTrades_357 : decode cX12_layTrades 357 = .ok (.goto (-27), 3) := DX12_layTrades _ _ _ rfl
theorem dX12_layTrades_139 : decode cX12_layTrades 139 = .ok (.aload_n 0, 1) := DX12_layTrades _ _ _ rfl
theorem dX12_layTrades_140 : decode cX12_layTrades 140 = .ok (.getfield 114, 3) := DX12_layTrades _ _ _ rfl
theorem dX12_layTrades_143 : decode cX12_layTrades 143 = .ok (.iload 6, 2) := DX12_layTrades _ _ _ rfl
theorem dX12_layTrades_145 : decode cX12_layTrades 145 = .ok (.iaload, 1) := DX12_layTrades _ _ _ rfl
theorem dX12_layTrades_146 : decode cX12_layTrades 146 = .ok (.bipush 99, 2) := DX12_layTrades _ _ _ rfl
theorem dX12_layTrades_148 : decode cX12_layTrades 148 = .ok (.if_icmp .ne 6, 3) := DX12_layTrades _ _ _ rfl
theorem dX12_layTrades_154 : decode cX12_layTrades 154 = .ok (.iconst 0, 1) := DX12_layTrades _ _ _ rfl
theorem dX12_layTrades_155 : decode cX12_layTrades 155 = .ok (.istore 7, 2) := DX12_layTrades _ _ _ rfl
theorem dX12_layTrades_157 : decode cX12_layTrades 157 = .ok (.iload 7, 2) := DX12_layTrades _ _ _ rfl
theorem dX12_layTrades_159 : decode cX12_layTrades 159 = .ok (.iload_n 2, 1) := DX12_layTrades _ _ _ rfl
theorem dX12_layTrades_160 : decode cX12_layTrades 160 = .ok (.if_icmp .ge 161, 3) := DX12_layTrades _ _ _ rfl
theorem dX12_layTrades_321 : decode cX12_layTrades 321 = .ok (.iinc 6 1, 3) := DX12_layTrades _ _ _ rfl
theorem dX12_layTrades_324 : decode cX12_layTrades 324 = .ok (.goto (-195), 3) := DX12_layTrades _ _ _ rfl
theorem dX12_layTrades_163 : decode cX12_layTrades 163 = .ok (.iload 7, 2) := DX12_layTrades _ _ _ rfl
theorem dX12_layTrades_165 : decode cX12_layTrades 165 = .ok (.iconst 1, 1) := DX12_layTrades _ _ _ rfl
theorem dX12_layTrades_166 : decode cX12_layTrades 166 = .ok (.iadd, 1) := DX12_layTrades _ _ _ rfl
theorem dX12_layTrades_167 : decode cX12_layTrades 167 = .ok (.istore 8, 2) := DX12_layTrades _ _ _ rfl
theorem dX12_layTrades_169 : decode cX12_layTrades 169 = .ok (.iload 8, 2) := DX12_layTrades _ _ _ rfl
theorem dX12_layTrades_171 : decode cX12_layTrades 171 = .ok (.iload_n 2, 1) := DX12_layTrades _ _ _ rfl
theorem dX12_layTrades_172 : decode cX12_layTrades 172 = .ok (.if_icmp .ge 143, 3) := DX12_layTrades _ _ _ rfl
theorem dX12_layTrades_315 : decode cX12_layTrades 315 = .ok (.iinc 7 1, 3) := DX12_layTrades _ _ _ rfl
theorem dX12_layTrades_318 : decode cX12_layTrades 318 = .ok (.goto (-161), 3) := DX12_layTrades _ _ _ rfl
theorem dX12_layTrades_175 : decode cX12_layTrades 175 = .ok (.aload_n 0, 1) := DX12_layTrades _ _ _ rfl
theorem dX12_layTrades_176 : decode cX12_layTrades 176 = .ok (.iload_n 1, 1) := DX12_layTrades _ _ _ rfl
theorem dX12_layTrades_177 : decode cX12_layTrades 177 = .ok (.iload 7, 2) := DX12_layTrades _ _ _ rfl
theorem dX12_layTrades_179 : decode cX12_layTrades 179 = .ok (.iload 8, 2) := DX12_layTrades _ _ _ rfl
theorem dX12_layTrades_181 : decode cX12_layTrades 181 = .ok (.iload 5, 2) := DX12_layTrades _ _ _ rfl
theorem dX12_layTrades_183 : decode cX12_layTrades 183 = .ok (.invokevirtual 355, 3) := DX12_layTrades _ _ _ rfl
theorem dX12_layTrades_186 : decode cX12_layTrades 186 = .ok (.ifCond .ne 6, 3) := DX12_layTrades _ _ _ rfl
theorem dX12_layTrades_192 : decode cX12_layTrades 192 = .ok (.iload 6, 2) := DX12_layTrades _ _ _ rfl
theorem dX12_layTrades_194 : decode cX12_layTrades 194 = .ok (.iload 7, 2) := DX12_layTrades _ _ _ rfl
theorem dX12_layTrades_196 : decode cX12_layTrades 196 = .ok (.iload 8, 2) := DX12_layTrades _ _ _ rfl
theorem dX12_layTrades_198 : decode cX12_layTrades 198 = .ok (.invokestatic 358, 3) := DX12_layTrades _ _ _ rfl
theorem dX12_layTrades_201 : decode cX12_layTrades 201 = .ok (.istore 9, 2) := DX12_layTrades _ _ _ rfl
theorem dX12_layTrades_203 : decode cX12_layTrades 203 = .ok (.aload_n 0, 1) := DX12_layTrades _ _ _ rfl
theorem dX12_layTrades_204 : decode cX12_layTrades 204 = .ok (.iload 9, 2) := DX12_layTrades _ _ _ rfl
theorem dX12_layTrades_206 : decode cX12_layTrades 206 = .ok (.aload_n 0, 1) := DX12_layTrades _ _ _ rfl
theorem dX12_layTrades_207 : decode cX12_layTrades 207 = .ok (.getfield 114, 3) := DX12_layTrades _ _ _ rfl
theorem dX12_layTrades_210 : decode cX12_layTrades 210 = .ok (.iload 6, 2) := DX12_layTrades _ _ _ rfl
theorem dX12_layTrades_212 : decode cX12_layTrades 212 = .ok (.iaload, 1) := DX12_layTrades _ _ _ rfl
theorem dX12_layTrades_213 : decode cX12_layTrades 213 = .ok (.iconst 1, 1) := DX12_layTrades _ _ _ rfl
theorem dX12_layTrades_214 : decode cX12_layTrades 214 = .ok (.iadd, 1) := DX12_layTrades _ _ _ rfl
theorem dX12_layTrades_215 : decode cX12_layTrades 215 = .ok (.invokevirtual 361, 3) := DX12_layTrades _ _ _ rfl
theorem dX12_layTrades_218 : decode cX12_layTrades 218 = .ok (.iconst 0, 1) := DX12_layTrades _ _ _ rfl
theorem dX12_layTrades_219 : decode cX12_layTrades 219 = .ok (.istore 10, 2) := DX12_layTrades _ _ _ rfl
theorem dX12_layTrades_267 : decode cX12_layTrades 267 = .ok (.iload 11, 2) := DX12_layTrades _ _ _ rfl
theorem dX12_layTrades_269 : decode cX12_layTrades 269 = .ok (.iload_n 2, 1) := DX12_layTrades _ _ _ rfl
theorem dX12_layTrades_270 : decode cX12_layTrades 270 = .ok (.if_icmp .ge 39, 3) := DX12_layTrades _ _ _ rfl
theorem dX12_layTrades_309 : decode cX12_layTrades 309 = .ok (.iinc 8 1, 3) := DX12_layTrades _ _ _ rfl
theorem dX12_layTrades_312 : decode cX12_layTrades 312 = .ok (.goto (-143), 3) := DX12_layTrades _ _ _ rfl
theorem dX12_layTrades_273 : decode cX12_layTrades 273 = .ok (.aload_n 0, 1) := DX12_layTrades _ _ _ rfl
theorem dX12_layTrades_274 : decode cX12_layTrades 274 = .ok (.iload_n 1, 1) := DX12_layTrades _ _ _ rfl
theorem dX12_layTrades_275 : decode cX12_layTrades 275 = .ok (.iload 10, 2) := DX12_layTrades _ _ _ rfl
theorem dX12_layTrades_277 : decode cX12_layTrades 277 = .ok (.iload 11, 2) := DX12_layTrades _ _ _ rfl
theorem dX12_layTrades_279 : decode cX12_layTrades 279 = .ok (.iload 5, 2) := DX12_layTrades _ _ _ rfl
theorem dX12_layTrades_281 : decode cX12_layTrades 281 = .ok (.invokevirtual 355, 3) := DX12_layTrades _ _ _ rfl
theorem dX12_layTrades_284 : decode cX12_layTrades 284 = .ok (.ifCond .eq 25, 3) := DX12_layTrades _ _ _ rfl
theorem dX12_layTrades_287 : decode cX12_layTrades 287 = .ok (.aload_n 0, 1) := DX12_layTrades _ _ _ rfl
theorem dX12_layTrades_288 : decode cX12_layTrades 288 = .ok (.iload 9, 2) := DX12_layTrades _ _ _ rfl
theorem dX12_layTrades_290 : decode cX12_layTrades 290 = .ok (.iload 10, 2) := DX12_layTrades _ _ _ rfl
theorem dX12_layTrades_292 : decode cX12_layTrades 292 = .ok (.iload 11, 2) := DX12_layTrades _ _ _ rfl
theorem dX12_layTrades_294 : decode cX12_layTrades 294 = .ok (.invokestatic 358, 3) := DX12_layTrades _ _ _ rfl
theorem dX12_layTrades_297 : decode cX12_layTrades 297 = .ok (.aload_n 0, 1) := DX12_layTrades _ _ _ rfl
theorem dX12_layTrades_298 : decode cX12_layTrades 298 = .ok (.getfield 114, 3) := DX12_layTrades _ _ _ rfl
theorem dX12_layTrades_301 : decode cX12_layTrades 301 = .ok (.iload 6, 2) := DX12_layTrades _ _ _ rfl
theorem dX12_layTrades_303 : decode cX12_layTrades 303 = .ok (.iaload, 1) := DX12_layTrades _ _ _ rfl
theorem dX12_layTrades_304 : decode cX12_layTrades 304 = .ok (.iconst 2, 1) := DX12_layTrades _ _ _ rfl
theorem dX12_layTrades_305 : decode cX12_layTrades 305 = .ok (.iadd, 1) := DX12_layTrades _ _ _ rfl
theorem dX12_layTrades_306 : decode cX12_layTrades 306 = .ok (.invokevirtual 361, 3) := DX12_layTrades _ _ _ rfl
theorem dX12_layTrades_189 : decode cX12_layTrades 189 = .ok (.goto 120, 3) := DX12_layTrades _ _ _ rfl
theorem dX12_layTrades_151 : decode cX12_layTrades 151 = .ok (.goto 170, 3) := DX12_layTrades _ _ _ rfl
theorem dX12_layTrades_106 : decode cX12_layTrades 106 = .ok (.aload_n 0, 1) := DX12_layTrades _ _ _ rfl
theorem dX12_layTrades_107 : decode cX12_layTrades 107 = .ok (.getfield 117, 3) := DX12_layTrades _ _ _ rfl
theorem dX12_layTrades_110 : decode cX12_layTrades 110 = .ok (.iload 6, 2) := DX12_layTrades _ _ _ rfl
theorem dX12_layTrades_112 : decode cX12_layTrades 112 = .ok (.aload_n 0, 1) := DX12_layTrades _ _ _ rfl
theorem dX12_layTrades_113 : decode cX12_layTrades 113 = .ok (.getfield 114, 3) := DX12_layTrades _ _ _ rfl
theorem dX12_layTrades_116 : decode cX12_layTrades 116 = .ok (.iload 6, 2) := DX12_layTrades _ _ _ rfl
theorem dX12_layTrades_118 : decode cX12_layTrades 118 = .ok (.iaload, 1) := DX12_layTrades _ _ _ rfl
theorem dX12_layTrades_119 : decode cX12_layTrades 119 = .ok (.iastore, 1) := DX12_layTrades _ _ _ rfl
theorem dX12_layTrades_120 : decode cX12_layTrades 120 = .ok (.iinc 6 1, 3) := DX12_layTrades _ _ _ rfl
theorem dX12_layTrades_123 : decode cX12_layTrades 123 = .ok (.goto (-27), 3) := DX12_layTrades _ _ _ rfl
theorem dX12_layTrades_46 : decode cX12_layTrades 46 = .ok (.iload_n 3, 1) := DX12_layTrades _ _ _ rfl
theorem dX12_layTrades_47 : decode cX12_layTrades 47 = .ok (.iconst 1, 1) := DX12_layTrades _ _ _ rfl
theorem dX12_layTrades_48 : decode cX12_layTrades 48 = .ok (.iconst 5, 1) := DX12_layTrades _ _ _ rfl
theorem dX12_layTrades_49 : decode cX12_layTrades 49 = .ok (.iload 5, 2) := DX12_layTrades _ _ _ rfl
theorem dX12_layTrades_51 : decode cX12_layTrades 51 = .ok (.imul, 1) := DX12_layTrades _ _ _ rfl
theorem dX12_layTrades_52 : decode cX12_layTrades 52 = .ok (.ishl, 1) := DX12_layTrades _ _ _ rfl
theorem dX12_layTrades_53 : decode cX12_layTrades 53 = .ok (.ior, 1) := DX12_layTrades _ _ _ rfl
theorem dX12_layTrades_54 : decode cX12_layTrades 54 = .ok (.istore_n 3, 1) := DX12_layTrades _ _ _ rfl
theorem dX12_layTrades_55 : decode cX12_layTrades 55 = .ok (.iload 4, 2) := DX12_layTrades _ _ _ rfl
theorem dX12_layTrades_57 : decode cX12_layTrades 57 = .ok (.iconst 1, 1) := DX12_layTrades _ _ _ rfl
theorem dX12_layTrades_58 : decode cX12_layTrades 58 = .ok (.iload_n 2, 1) := DX12_layTrades _ _ _ rfl
theorem dX12_layTrades_59 : decode cX12_layTrades 59 = .ok (.ishl, 1) := DX12_layTrades _ _ _ rfl
theorem dX12_layTrades_60 : decode cX12_layTrades 60 = .ok (.iconst 1, 1) := DX12_layTrades _ _ _ rfl
theorem dX12_layTrades_61 : decode cX12_layTrades 61 = .ok (.isub, 1) := DX12_layTrades _ _ _ rfl
theorem dX12_layTrades_62 : decode cX12_layTrades 62 = .ok (.iconst 4, 1) := DX12_layTrades _ _ _ rfl
theorem dX12_layTrades_63 : decode cX12_layTrades 63 = .ok (.iload 5, 2) := DX12_layTrades _ _ _ rfl
theorem dX12_layTrades_65 : decode cX12_layTrades 65 = .ok (.imul, 1) := DX12_layTrades _ _ _ rfl
theorem dX12_layTrades_66 : decode cX12_layTrades 66 = .ok (.ishl, 1) := DX12_layTrades _ _ _ rfl
theorem dX12_layTrades_67 : decode cX12_layTrades 67 = .ok (.ior, 1) := DX12_layTrades _ _ _ rfl
theorem dX12_layTrades_68 : decode cX12_layTrades 68 = .ok (.istore 4, 2) := DX12_layTrades _ _ _ rfl
theorem dX12_layTrades_70 : decode cX12_layTrades 70 = .ok (.iinc 5 1, 3) := DX12_layTrades _ _ _ rfl
theorem dX12_layTrades_73 : decode cX12_layTrades 73 = .ok (.goto (-33), 3) := DX12_layTrades _ _ _ rfl
theorem dX12_layTrades_18 : decode cX12_layTrades 18 = .ok (.aload_n 0, 1) := DX12_layTrades _ _ _ rfl
theorem dX12_layTrades_19 : decode cX12_layTrades 19 = .ok (.getfield 114, 3) := DX12_layTrades _ _ _ rfl
theorem dX12_layTrades_22 : decode cX12_layTrades 22 = .ok (.iload_n 3, 1) := DX12_layTrades _ _ _ rfl
theorem dX12_layTrades_23 : decode cX12_layTrades 23 = .ok (.bipush 99, 2) := DX12_layTrades _ _ _ rfl
theorem dX12_layTrades_25 : decode cX12_layTrades 25 = .ok (.iastore, 1) := DX12_layTrades _ _ _ rfl
theorem dX12_layTrades_26 : decode cX12_layTrades 26 = .ok (.iinc 3 1, 3) := DX12_layTrades _ _ _ rfl
theorem dX12_layTrades_29 : decode cX12_layTrades 29 = .ok (.goto (-20), 3) := DX12_layTrades _ _ _ rfl
theorem dX12_trade_13 : decode cX12_trade 13 = .ok (.aload_n 0, 1) := DX12_trade _ _ _ rfl
theorem dX12_trade_14 : decode cX12_trade 14 = .ok (.getfield 13, 3) := DX12_trade _ _ _ rfl
theorem dX12_trade_17 : decode cX12_trade 17 = .ok (.iload_n 1, 1) := DX12_trade _ _ _ rfl
theorem dX12_trade_18 : decode cX12_trade 18 = .ok (.iaload, 1) := DX12_trade _ _ _ rfl
theorem dX12_trade_19 : decode cX12_trade 19 = .ok (.iconst 4, 1) := DX12_trade _ _ _ rfl
theorem dX12_trade_20 : decode cX12_trade 20 = .ok (.if_icmp .gt 22, 3) := DX12_trade _ _ _ rfl
theorem dX12_trade_23 : decode cX12_trade 23 = .ok (.iload_n 2, 1) := DX12_trade _ _ _ rfl
theorem dX12_trade_24 : decode cX12_trade 24 = .ok (.iconst 1, 1) := DX12_trade _ _ _ rfl
theorem dX12_trade_25 : decode cX12_trade 25 = .ok (.bipush 8, 2) := DX12_trade _ _ _ rfl
theorem dX12_trade_27 : decode cX12_trade 27 = .ok (.invokestatic 198, 3) := DX12_trade _ _ _ rfl
theorem dX12_trade_30 : decode cX12_trade 30 = .ok (.ifCond .eq 12, 3) := DX12_trade _ _ _ rfl
theorem dX12_trade_33 : decode cX12_trade 33 = .ok (.iload_n 3, 1) := DX12_trade _ _ _ rfl
theorem dX12_trade_34 : decode cX12_trade 34 = .ok (.iconst 0, 1) := DX12_trade _ _ _ rfl
theorem dX12_trade_35 : decode cX12_trade 35 = .ok (.iconst 1, 1) := DX12_trade _ _ _ rfl
theorem dX12_trade_36 : decode cX12_trade 36 = .ok (.invokestatic 198, 3) := DX12_trade _ _ _ rfl
theorem dX12_trade_39 : decode cX12_trade 39 = .ok (.ifCond .ne 5, 3) := DX12_trade _ _ _ rfl
theorem dX12_trade_44 : decode cX12_trade 44 = .ok (.aload_n 0, 1) := DX12_trade _ _ _ rfl
theorem dX12_trade_45 : decode cX12_trade 45 = .ok (.iload_n 1, 1) := DX12_trade _ _ _ rfl
theorem dX12_trade_46 : decode cX12_trade 46 = .ok (.invokevirtual 364, 3) := DX12_trade _ _ _ rfl
theorem dX12_trade_49 : decode cX12_trade 49 = .ok (.aload_n 0, 1) := DX12_trade _ _ _ rfl
theorem dX12_trade_50 : decode cX12_trade 50 = .ok (.getfield 120, 3) := DX12_trade _ _ _ rfl
theorem dX12_trade_53 : decode cX12_trade 53 = .ok (.iload_n 2, 1) := DX12_trade _ _ _ rfl
theorem dX12_trade_54 : decode cX12_trade 54 = .ok (.iaload, 1) := DX12_trade _ _ _ rfl
theorem dX12_trade_55 : decode cX12_trade 55 = .ok (.bipush 99, 2) := DX12_trade _ _ _ rfl
theorem dX12_trade_57 : decode cX12_trade 57 = .ok (.if_icmp .ne 5, 3) := DX12_trade _ _ _ rfl
theorem dX12_trade_62 : decode cX12_trade 62 = .ok (.iconst 1, 1) := DX12_trade _ _ _ rfl
theorem dX12_trade_63 : decode cX12_trade 63 = .ok (.istore 4, 2) := DX12_trade _ _ _ rfl
theorem dX12_trade_65 : decode cX12_trade 65 = .ok (.iconst 1, 1) := DX12_trade _ _ _ rfl
theorem dX12_trade_66 : decode cX12_trade 66 = .ok (.istore 5, 2) := DX12_trade _ _ _ rfl
theorem dX12_trade_68 : decode cX12_trade 68 = .ok (.iload 5, 2) := DX12_trade _ _ _ rfl
theorem dX12_trade_70 : decode cX12_trade 70 = .ok (.iload_n 2, 1) := DX12_trade _ _ _ rfl
theorem dX12_trade_71 : decode cX12_trade 71 = .ok (.if_icmp .ge 37, 3) := DX12_trade _ _ _ rfl
theorem dX12_trade_108 : decode cX12_trade 108 = .ok (.iload_n 3, 1) := DX12_trade _ _ _ rfl
theorem dX12_trade_109 : decode cX12_trade 109 = .ok (.ifCond .ne 12, 3) := DX12_trade _ _ _ rfl
theorem dX12_trade_121 : decode cX12_trade 121 = .ok (.iload 4, 2) := DX12_trade _ _ _ rfl
theorem dX12_trade_123 : decode cX12_trade 123 = .ok (.ifCond .eq 7, 3) := DX12_trade _ _ _ rfl
theorem dX12_trade_130 : decode cX12_trade 130 = .ok (.iconst 0, 1) := DX12_trade _ _ _ rfl
theorem dX12_trade_131 : decode cX12_trade 131 = .ok (.ireturn, 1) := DX12_trade _ _ _ rfl
theorem dX12_trade_126 : decode cX12_trade 126 = .ok (.iconst 1, 1) := DX12_trade _ _ _ rfl
theorem dX12_trade_127 : decode cX12_trade 127 = .ok (.goto 4, 3) := DX12_trade _ _ _ rfl
theorem dX12_trade_112 : decode cX12_trade 112 = .ok (.aload_n 0, 1) := DX12_trade _ _ _ rfl
theorem dX12_trade_113 : decode cX12_trade 113 = .ok (.getfield 120, 3) := DX12_trade _ _ _ rfl
theorem dX12_trade_116 : decode cX12_trade 116 = .ok (.iload_n 2, 1) := DX12_trade _ _ _ rfl
theorem dX12_trade_117 : decode cX12_trade 117 = .ok (.iaload, 1) := DX12_trade _ _ _ rfl
theorem dX12_trade_118 : decode cX12_trade 118 = .ok (.goto 13, 3) := DX12_trade _ _ _ rfl
theorem dX12_trade_74 : decode cX12_trade 74 = .ok (.iload 4, 2) := DX12_trade _ _ _ rfl
theorem dX12_trade_76 : decode cX12_trade 76 = .ok (.ifCond .eq 23, 3) := DX12_trade _ _ _ rfl
theorem dX12_trade_99 : decode cX12_trade 99 = .ok (.iconst 0, 1) := DX12_trade _ _ _ rfl
theorem dX12_trade_100 : decode cX12_trade 100 = .ok (.istore 4, 2) := DX12_trade _ _ _ rfl
theorem dX12_trade_102 : decode cX12_trade 102 = .ok (.iinc 5 1, 3) := DX12_trade _ _ _ rfl
theorem dX12_trade_105 : decode cX12_trade 105 = .ok (.goto (-37), 3) := DX12_trade _ _ _ rfl
theorem dX12_trade_79 : decode cX12_trade 79 = .ok (.aload_n 0, 1) := DX12_trade _ _ _ rfl
theorem dX12_trade_80 : decode cX12_trade 80 = .ok (.getfield 120, 3) := DX12_trade _ _ _ rfl
theorem dX12_trade_83 : decode cX12_trade 83 = .ok (.iload 5, 2) := DX12_trade _ _ _ rfl
theorem dX12_trade_85 : decode cX12_trade 85 = .ok (.iaload, 1) := DX12_trade _ _ _ rfl
theorem dX12_trade_86 : decode cX12_trade 86 = .ok (.aload_n 0, 1) := DX12_trade _ _ _ rfl
theorem dX12_trade_87 : decode cX12_trade 87 = .ok (.getfield 120, 3) := DX12_trade _ _ _ rfl
theorem dX12_trade_90 : decode cX12_trade 90 = .ok (.iload_n 2, 1) := DX12_trade _ _ _ rfl
theorem dX12_trade_91 : decode cX12_trade 91 = .ok (.iaload, 1) := DX12_trade _ _ _ rfl
theorem dX12_trade_92 : decode cX12_trade 92 = .ok (.if_icmp .le 7, 3) := DX12_trade _ _ _ rfl
theorem dX12_trade_95 : decode cX12_trade 95 = .ok (.iconst 1, 1) := DX12_trade _ _ _ rfl
theorem dX12_trade_96 : decode cX12_trade 96 = .ok (.goto 4, 3) := DX12_trade _ _ _ rfl
theorem dX12_trade_60 : decode cX12_trade 60 = .ok (.iconst (-1), 1) := DX12_trade _ _ _ rfl
theorem dX12_trade_61 : decode cX12_trade 61 = .ok (.ireturn, 1) := DX12_trade _ _ _ rfl
def L1_X12_mayTrade (rA : Nat → Int32) (rB : Nat → Int32) (rF : Nat → Int32) (rT : Nat → Int32) (rW : Nat → Int32) (rO : Nat → Int32) (lc : Nat) (i : Nat) (a : Nat) (b : Nat) (h : Nat) : Nat → Nat → Int32
  | 0, _ => (0)
  | m_ + 1, j1 => if nI lc ≤ nI j1 then ((0 : Int32)) else (if rO (12 * i + j1) = 0 then (if F_X12_joins rA rB rO (12 * i + j1) (nI a) (nI b) = 0 then (L1_X12_mayTrade rA rB rF rT rW rO lc i a b h m_ (j1 + 1) ) else (if F_X12_works rF rT rW (12 * i + j1) (nI h) = 0 then (L1_X12_mayTrade rA rB rF rT rW rO lc i a b h m_ (j1 + 1) ) else ((1 : Int32)))) else (L1_X12_mayTrade rA rB rF rT rW rO lc i a b h m_ (j1 + 1) ))
def F_X12_mayTrade (rA : Nat → Int32) (rB : Nat → Int32) (rF : Nat → Int32) (rT : Nat → Int32) (rW : Nat → Int32) (rO : Nat → Int32) (lc : Nat) (i : Nat) (a : Nat) (b : Nat) (h : Nat) : Int32 := L1_X12_mayTrade rA rB rF rT rW rO lc i a b h (lc + 1) 0 
set_option maxHeartbeats 4000000 in
set_option maxRecDepth 100000 in
theorem K_X12_mayTrade (l : Launch) (g : GG) (h0 : Nat) (vs : List Value) (b7 : Nat) (rL : Nat → Int32) (b12 : Nat) (rA : Nat → Int32) (b13 : Nat) (rB : Nat → Int32) (b14 : Nat) (rF : Nat → Int32) (b15 : Nat) (rT : Nat → Int32) (b16 : Nat) (rW : Nat → Int32) (b17 : Nat) (rO : Nat → Int32) (lc : Nat) (i : Nat) (a : Nat) (b : Nat) (h : Nat) (hlen : vs.length = 64) (h7_ : vs[7]? = some (.ref b7)) (h12_ : vs[12]? = some (.ref b12)) (h13_ : vs[13]? = some (.ref b13)) (h14_ : vs[14]? = some (.ref b14)) (h15_ : vs[15]? = some (.ref b15)) (h16_ : vs[16]? = some (.ref b16)) (h17_ : vs[17]? = some (.ref b17)) (hi : i < 11) (hlc : lc ≤ 12) (hL : rL i = nI lc) : MetI l g yX12_mayTrade cX12_mayTrade 6 (some .boolean) 1 0 0 [.ref h0, .int (nI i), .int (nI a), .int (nI b), .int (nI h)] [(h0, .inr (12, vs)), (b7, .inl (g.2.1 1, 11, .inl rL)), (b12, .inl (g.2.1 1, 132, .inl rA)), (b13, .inl (g.2.1 1, 132, .inl rB)), (b14, .inl (g.2.1 1, 132, .inl rF)), (b15, .inl (g.2.1 1, 132, .inl rT)), (b16, .inl (g.2.1 1, 132, .inl rW)), (b17, .inl (g.2.1 3, 132, .inl rO))] (fun r u => r = (F_X12_mayTrade rA rB rF rT rW rO lc i a b h) ∧ u = [(h0, .inr (12, vs)), (b7, .inl (g.2.1 1, 11, .inl rL)), (b12, .inl (g.2.1 1, 132, .inl rA)), (b13, .inl (g.2.1 1, 132, .inl rB)), (b14, .inl (g.2.1 1, 132, .inl rF)), (b15, .inl (g.2.1 1, 132, .inl rT)), (b16, .inl (g.2.1 1, 132, .inl rW)), (b17, .inl (g.2.1 3, 132, .inl rO))]) := by
  refine MetI.of (own := RX12) rfl (by decide) (Nat.le_of_ble_eq_true rfl) ?_
  intro p e s m below meth c A ls args Q hQ X hr hin hW hl
  have hx := X.1
  have hb := X.2.1
  have hl : lv_has ls 6 [(0, .ref h0), (1, .int (nI i)), (2, .int (nI a)), (3, .int (nI b)), (4, .int (nI h))] := hl
  refine lv_iconst (v := 0) (pc := 0) hx hb dX12_mayTrade_0 (by decide) ?_
  refine lv_istore (lv' := [(5, .int 0), (0, .ref h0), (1, .int (nI i)), (2, .int (nI a)), (3, .int (nI b)), (4, .int (nI h))]) (pc := 1) hx hb dX12_mayTrade_1 hl (by decide) rfl (fun ls hl => ?_)
  have loop1 : ∀ (fu1 : Nat) (j1 : Nat), (lc < fu1 + j1) → (j1 ≤ lc) → (L1_X12_mayTrade rA rB rF rT rW rO lc i a b h fu1 j1 = F_X12_mayTrade rA rB rF rT rW rO lc i a b h) → ∀ (H : Heap) (locs : List Loc) (ls : Array Slot), WD g A s H locs [(h0, .inr (12, vs)), (b7, .inl (g.2.1 1, 11, .inl rL)), (b12, .inl (g.2.1 1, 132, .inl rA)), (b13, .inl (g.2.1 1, 132, .inl rB)), (b14, .inl (g.2.1 1, 132, .inl rF)), (b15, .inl (g.2.1 1, 132, .inl rT)), (b16, .inl (g.2.1 1, 132, .inl rW)), (b17, .inl (g.2.1 3, 132, .inl rO))] → lv_has ls 6 [(5, .int (nI j1)), (0, .ref h0), (1, .int (nI i)), (2, .int (nI a)), (3, .int (nI b)), (4, .int (nI h))] → W p l e (RM 1 0 0) s m args below meth c H locs 0 0 Q (F0 m 3 ls []) := by
    intro fu1
    induction fu1 with
    | zero =>
      intro j1 hm1 hj1 hst1
      exact absurd hm1 (by omega)
    | succ fu1 ih1 =>
      intro j1 hm1 hj1 hst1 H locs ls hW hl
      refine lv_iload (pc := 3) hx hb dX12_mayTrade_3 (lv_at hl 0 rfl) ?_
      refine lv_aload_n (pc := 5) hx hb dX12_mayTrade_5 rfl (lv_at hl 1 rfl) ?_
      refine r_get X hW 0 ciX12 7 rfl (by decide) m_1238 rfl h7_ dX12_mayTrade_6 ?_
      refine lv_iload_n (pc := 9) hx hb dX12_mayTrade_9 rfl (lv_at hl 2 rfl) ?_
      refine r_iald X hW 1 rfl (vp_in_nI (by omega) (by decide)) dX12_mayTrade_10 ?_
      refine lv_topi (fun v1 ev1 => ?_)
      obtain rfl : v1 = rL i := ev1.trans (by rw [nI_clamp (by omega)])
      rw [hL]
      refine lv_icmp_ge (tgt := 69) (pc := 11) hx hb dX12_mayTrade_11 rfl (fun c2 => ?_) (fun c2 => ?_)
      · have h3 : lc ≤ j1 := (nI_leI (a := lc) (b := j1) (by omega) (by omega)).mp c2
        refine lv_iconst (v := 0) (pc := 69) hx hb dX12_mayTrade_69 (by decide) ?_
        have hF : F_X12_mayTrade rA rB rF rT rW rO lc i a b h = (0 : Int32) := hst1.symm.trans (show L1_X12_mayTrade rA rB rF rT rW rO lc i a b h (fu1 + 1) j1 = (0 : Int32) from by rw [L1_X12_mayTrade, if_pos c2])
        exact e_z (u := [(h0, .inr (12, vs)), (b7, .inl (g.2.1 1, 11, .inl rL)), (b12, .inl (g.2.1 1, 132, .inl rA)), (b13, .inl (g.2.1 1, 132, .inl rB)), (b14, .inl (g.2.1 1, 132, .inl rF)), (b15, .inl (g.2.1 1, 132, .inl rT)), (b16, .inl (g.2.1 1, 132, .inl rW)), (b17, .inl (g.2.1 3, 132, .inl rO))]) X hQ hr (hW) rfl [0, 1, 2, 3, 4, 5, 6, 7] rfl rfl (⟨hF.symm, rfl⟩) ⟨Nat.le_of_ble_eq_true rfl, Nat.le_of_ble_eq_true rfl⟩ dX12_mayTrade_70
      · have h4 : ¬ (lc ≤ j1) := fun q => c2 ((nI_leI (a := lc) (b := j1) (by omega) (by omega)).mpr q)
        refine lv_aload_n (pc := 14) hx hb dX12_mayTrade_14 rfl (lv_at hl 1 rfl) ?_
        refine r_get X hW 0 ciX12 17 rfl (by decide) m_1248 rfl h17_ dX12_mayTrade_15 ?_
        refine lv_bipush (v := 12) (pc := 18) hx hb dX12_mayTrade_18 (by decide) ?_
        refine lv_iload_n (pc := 20) hx hb dX12_mayTrade_20 rfl (lv_at hl 2 rfl) ?_
        refine lv_imul (pc := 21) hx hb dX12_mayTrade_21 ?_
        refine lv_topi (fun v5 ev5 => ?_)
        obtain rfl : v5 = nI (12 * i) := ev5.trans (pk_mul 12 i)
        refine lv_iload (pc := 22) hx hb dX12_mayTrade_22 (lv_at hl 0 rfl) ?_
        refine lv_iadd (pc := 24) hx hb dX12_mayTrade_24 ?_
        refine lv_topi (fun v6 ev6 => ?_)
        obtain rfl : v6 = nI (12 * i + j1) := ev6.trans (nI_add _ _)
        refine r_zald X hW 7 rfl (vp_in_nI (by omega) (by decide)) dX12_mayTrade_25 ?_
        refine lv_topi (fun v7 ev7 => ?_)
        obtain rfl : v7 = rO (12 * i + j1) := ev7.trans (by rw [nI_clamp (by omega)])
        refine lv_if_ne (tgt := 63) (pc := 26) hx hb dX12_mayTrade_26 rfl (fun c8 => ?_) (fun c8 => ?_)
        · refine lv_iinc (v := nI (j1 + 1)) (lv' := [(5, .int (nI (j1 + 1))), (0, .ref h0), (1, .int (nI i)), (2, .int (nI a)), (3, .int (nI b)), (4, .int (nI h))]) (pc := 63) hx hb dX12_mayTrade_63 hl (k := 0) rfl (nI_add j1 1) (by decide) rfl (fun ls hl => ?_)
          refine lv_goto (tgt := 3) (pc := 66) hx hb dX12_mayTrade_66 rfl ?_
          exact ih1 (j1 + 1)  (by omega) (by omega) ((show L1_X12_mayTrade rA rB rF rT rW rO lc i a b h (fu1 + 1) j1 = L1_X12_mayTrade rA rB rF rT rW rO lc i a b h fu1 (j1 + 1)  from by rw [L1_X12_mayTrade, if_neg c2, if_neg c8]).symm.trans hst1) _ _ _ hW (lv_sub hl [0, 1, 2, 3, 4, 5] rfl)
        · refine lv_aload_n (pc := 29) hx hb dX12_mayTrade_29 rfl (lv_at hl 1 rfl) ?_
          refine lv_bipush (v := 12) (pc := 30) hx hb dX12_mayTrade_30 (by decide) ?_
          refine lv_iload_n (pc := 32) hx hb dX12_mayTrade_32 rfl (lv_at hl 2 rfl) ?_
          refine lv_imul (pc := 33) hx hb dX12_mayTrade_33 ?_
          refine lv_topi (fun v11 ev11 => ?_)
          obtain rfl : v11 = nI (12 * i) := ev11.trans (pk_mul 12 i)
          refine lv_iload (pc := 34) hx hb dX12_mayTrade_34 (lv_at hl 0 rfl) ?_
          refine lv_iadd (pc := 36) hx hb dX12_mayTrade_36 ?_
          refine lv_topi (fun v12 ev12 => ?_)
          obtain rfl : v12 = nI (12 * i + j1) := ev12.trans (nI_add _ _)
          refine lv_iload_n (pc := 37) hx hb dX12_mayTrade_37 rfl (lv_at hl 3 rfl) ?_
          refine lv_iload_n (pc := 38) hx hb dX12_mayTrade_38 rfl (lv_at hl 4 rfl) ?_
          refine c_Vi (pc := 39) (As := [.int (nI (12 * i + j1)), .int (nI a), .int (nI b)]) (rest := []) (wr := [(b7, .inl (g.2.1 1, 11, .inl rL)), (b14, .inl (g.2.1 1, 132, .inl rF)), (b15, .inl (g.2.1 1, 132, .inl rT)), (b16, .inl (g.2.1 1, 132, .inl rW))]) X hW 0 ciX12 rfl (K_X12_joins l g h0 vs b12 rA b13 rB b17 rO (12 * i + j1) (nI a) (nI b) hlen h12_ h13_ h17_ (by omega)) vX12_231 [0, 2, 3, 7] [1, 4, 5, 6] rfl rfl rfl rfl rfl rfl hl.1 rfl (Nat.le_of_ble_eq_true rfl) ⟨Nat.le_of_ble_eq_true rfl, Nat.le_of_ble_eq_true rfl⟩ ⟨Nat.le_of_ble_eq_true rfl, Nat.le_of_ble_eq_true rfl⟩ dX12_mayTrade_39 (fun r13 u9 H locs hq hW => ?_)
          obtain ⟨rfl, rfl⟩ := hq
          have hW : WD g A s _ _ [(b7, .inl (g.2.1 1, 11, .inl rL)), (b14, .inl (g.2.1 1, 132, .inl rF)), (b15, .inl (g.2.1 1, 132, .inl rT)), (b16, .inl (g.2.1 1, 132, .inl rW)), (h0, .inr (12, vs)), (b12, .inl (g.2.1 1, 132, .inl rA)), (b13, .inl (g.2.1 1, 132, .inl rB)), (b17, .inl (g.2.1 3, 132, .inl rO))] := hW
          refine lv_if_eq (tgt := 63) (pc := 42) hx hb dX12_mayTrade_42 rfl (fun c14 => ?_) (fun c14 => ?_)
          · refine lv_iinc (v := nI (j1 + 1)) (lv' := [(5, .int (nI (j1 + 1))), (0, .ref h0), (1, .int (nI i)), (2, .int (nI a)), (3, .int (nI b)), (4, .int (nI h))]) (pc := 63) hx hb dX12_mayTrade_63 hl (k := 0) rfl (nI_add j1 1) (by decide) rfl (fun ls hl => ?_)
            refine lv_goto (tgt := 3) (pc := 66) hx hb dX12_mayTrade_66 rfl ?_
            have hW : WD g A s _ _ [(h0, .inr (12, vs)), (b7, .inl (g.2.1 1, 11, .inl rL)), (b12, .inl (g.2.1 1, 132, .inl rA)), (b13, .inl (g.2.1 1, 132, .inl rB)), (b14, .inl (g.2.1 1, 132, .inl rF)), (b15, .inl (g.2.1 1, 132, .inl rT)), (b16, .inl (g.2.1 1, 132, .inl rW)), (b17, .inl (g.2.1 3, 132, .inl rO))] := hW.pick [4, 0, 5, 6, 1, 2, 3, 7] rfl rfl
            exact ih1 (j1 + 1)  (by omega) (by omega) ((show L1_X12_mayTrade rA rB rF rT rW rO lc i a b h (fu1 + 1) j1 = L1_X12_mayTrade rA rB rF rT rW rO lc i a b h fu1 (j1 + 1)  from by rw [L1_X12_mayTrade, if_neg c2, if_pos c8, if_pos c14]).symm.trans hst1) _ _ _ hW (lv_sub hl [0, 1, 2, 3, 4, 5] rfl)
          · refine lv_aload_n (pc := 45) hx hb dX12_mayTrade_45 rfl (lv_at hl 1 rfl) ?_
            refine lv_bipush (v := 12) (pc := 46) hx hb dX12_mayTrade_46 (by decide) ?_
            refine lv_iload_n (pc := 48) hx hb dX12_mayTrade_48 rfl (lv_at hl 2 rfl) ?_
            refine lv_imul (pc := 49) hx hb dX12_mayTrade_49 ?_
            refine lv_topi (fun v17 ev17 => ?_)
            obtain rfl : v17 = nI (12 * i) := ev17.trans (pk_mul 12 i)
            refine lv_iload (pc := 50) hx hb dX12_mayTrade_50 (lv_at hl 0 rfl) ?_
            refine lv_iadd (pc := 52) hx hb dX12_mayTrade_52 ?_
            refine lv_topi (fun v18 ev18 => ?_)
            obtain rfl : v18 = nI (12 * i + j1) := ev18.trans (nI_add _ _)
            refine lv_iload (pc := 53) hx hb dX12_mayTrade_53 (lv_at hl 5 rfl) ?_
            refine c_Vi (pc := 55) (As := [.int (nI (12 * i + j1)), .int (nI h)]) (rest := []) (wr := [(b7, .inl (g.2.1 1, 11, .inl rL)), (b12, .inl (g.2.1 1, 132, .inl rA)), (b13, .inl (g.2.1 1, 132, .inl rB)), (b17, .inl (g.2.1 3, 132, .inl rO))]) X hW 4 ciX12 rfl (K_X12_works l g h0 vs b14 rF b15 rT b16 rW (12 * i + j1) (nI h) hlen h14_ h15_ h16_ (by omega)) vX12_234 [4, 1, 2, 3] [0, 5, 6, 7] rfl rfl rfl rfl rfl rfl hl.1 rfl (Nat.le_of_ble_eq_true rfl) ⟨Nat.le_of_ble_eq_true rfl, Nat.le_of_ble_eq_true rfl⟩ ⟨Nat.le_of_ble_eq_true rfl, Nat.le_of_ble_eq_true rfl⟩ dX12_mayTrade_55 (fun r19 u9 H locs hq hW => ?_)
            obtain ⟨rfl, rfl⟩ := hq
            have hW : WD g A s _ _ [(b7, .inl (g.2.1 1, 11, .inl rL)), (b12, .inl (g.2.1 1, 132, .inl rA)), (b13, .inl (g.2.1 1, 132, .inl rB)), (b17, .inl (g.2.1 3, 132, .inl rO)), (h0, .inr (12, vs)), (b14, .inl (g.2.1 1, 132, .inl rF)), (b15, .inl (g.2.1 1, 132, .inl rT)), (b16, .inl (g.2.1 1, 132, .inl rW))] := hW
            refine lv_if_eq (tgt := 63) (pc := 58) hx hb dX12_mayTrade_58 rfl (fun c20 => ?_) (fun c20 => ?_)
            · refine lv_iinc (v := nI (j1 + 1)) (lv' := [(5, .int (nI (j1 + 1))), (0, .ref h0), (1, .int (nI i)), (2, .int (nI a)), (3, .int (nI b)), (4, .int (nI h))]) (pc := 63) hx hb dX12_mayTrade_63 hl (k := 0) rfl (nI_add j1 1) (by decide) rfl (fun ls hl => ?_)
              refine lv_goto (tgt := 3) (pc := 66) hx hb dX12_mayTrade_66 rfl ?_
              have hW : WD g A s _ _ [(h0, .inr (12, vs)), (b7, .inl (g.2.1 1, 11, .inl rL)), (b12, .inl (g.2.1 1, 132, .inl rA)), (b13, .inl (g.2.1 1, 132, .inl rB)), (b14, .inl (g.2.1 1, 132, .inl rF)), (b15, .inl (g.2.1 1, 132, .inl rT)), (b16, .inl (g.2.1 1, 132, .inl rW)), (b17, .inl (g.2.1 3, 132, .inl rO))] := hW.pick [4, 0, 1, 2, 5, 6, 7, 3] rfl rfl
              exact ih1 (j1 + 1)  (by omega) (by omega) ((show L1_X12_mayTrade rA rB rF rT rW rO lc i a b h (fu1 + 1) j1 = L1_X12_mayTrade rA rB rF rT rW rO lc i a b h fu1 (j1 + 1)  from by rw [L1_X12_mayTrade, if_neg c2, if_pos c8, if_neg c14, if_pos c20]).symm.trans hst1) _ _ _ hW (lv_sub hl [0, 1, 2, 3, 4, 5] rfl)
            · refine lv_iconst (v := 1) (pc := 61) hx hb dX12_mayTrade_61 (by decide) ?_
              have hF : F_X12_mayTrade rA rB rF rT rW rO lc i a b h = (1 : Int32) := hst1.symm.trans (show L1_X12_mayTrade rA rB rF rT rW rO lc i a b h (fu1 + 1) j1 = (1 : Int32) from by rw [L1_X12_mayTrade, if_neg c2, if_pos c8, if_neg c14, if_neg c20])
              exact e_z (u := [(h0, .inr (12, vs)), (b7, .inl (g.2.1 1, 11, .inl rL)), (b12, .inl (g.2.1 1, 132, .inl rA)), (b13, .inl (g.2.1 1, 132, .inl rB)), (b14, .inl (g.2.1 1, 132, .inl rF)), (b15, .inl (g.2.1 1, 132, .inl rT)), (b16, .inl (g.2.1 1, 132, .inl rW)), (b17, .inl (g.2.1 3, 132, .inl rO))]) X hQ hr (hW) rfl [4, 0, 1, 2, 5, 6, 7, 3] rfl rfl (⟨hF.symm, rfl⟩) ⟨Nat.le_of_ble_eq_true rfl, Nat.le_of_ble_eq_true rfl⟩ dX12_mayTrade_62
  exact loop1 (lc + 1) 0  (by omega) (by omega) (show F_X12_mayTrade rA rB rF rT rW rO lc i a b h = L1_X12_mayTrade rA rB rF rT rW rO lc i a b h (lc + 1) 0  from rfl).symm _ _ _ hW (lv_sub hl [0, 1, 2, 3, 4, 5] rfl)

def F_X12_traded (x : Int32) (a : Nat) (b : Nat) : Int32 := (x ||| ((((x >>> ((nI (4 * a)) &&& 31)) ||| (x >>> ((nI (4 * b)) &&& 31))) &&& (15 : Int32)) <<< ((nI (4 * a)) &&& 31))) ||| ((((x >>> ((nI (4 * a)) &&& 31)) ||| (x >>> ((nI (4 * b)) &&& 31))) &&& (15 : Int32)) <<< ((nI (4 * b)) &&& 31))
set_option maxHeartbeats 4000000 in
set_option maxRecDepth 100000 in
theorem K_X12_traded (l : Launch) (g : GG) (x : Int32) (a : Nat) (b : Nat) (ha : a < 4) (hb : b < 4) : MetI l g yX12_traded cX12_traded 4 (some .int) 0 0 0 [.int x, .int (nI a), .int (nI b)] [] (fun r u => r = (F_X12_traded x a b) ∧ u = []) := by
  refine MetI.of (own := RX12) rfl (by decide) (Nat.le_of_ble_eq_true rfl) ?_
  intro p e s m below meth c A ls args Q hQ X hr hin hW hl
  have hx := X.1
  have hb := X.2.1
  have hl : lv_has ls 4 [(0, .int x), (1, .int (nI a)), (2, .int (nI b))] := hl
  refine lv_iload_n (pc := 0) hx hb dX12_traded_0 rfl (lv_at hl 0 rfl) ?_
  refine lv_iconst (v := 4) (pc := 1) hx hb dX12_traded_1 (by decide) ?_
  refine lv_iload_n (pc := 2) hx hb dX12_traded_2 rfl (lv_at hl 1 rfl) ?_
  refine lv_imul (pc := 3) hx hb dX12_traded_3 ?_
  refine lv_topi (fun v1 ev1 => ?_)
  obtain rfl : v1 = nI (4 * a) := ev1.trans (pk_mul 4 a)
  refine lv_ishr (pc := 4) hx hb dX12_traded_4 ?_
  refine lv_iload_n (pc := 5) hx hb dX12_traded_5 rfl (lv_at hl 0 rfl) ?_
  refine lv_iconst (v := 4) (pc := 6) hx hb dX12_traded_6 (by decide) ?_
  refine lv_iload_n (pc := 7) hx hb dX12_traded_7 rfl (lv_at hl 2 rfl) ?_
  refine lv_imul (pc := 8) hx hb dX12_traded_8 ?_
  refine lv_topi (fun v2 ev2 => ?_)
  obtain rfl : v2 = nI (4 * b) := ev2.trans (pk_mul 4 b)
  refine lv_ishr (pc := 9) hx hb dX12_traded_9 ?_
  refine lv_ior (pc := 10) hx hb dX12_traded_10 ?_
  refine lv_bipush (v := 15) (pc := 11) hx hb dX12_traded_11 (by decide) ?_
  refine lv_iand (pc := 13) hx hb dX12_traded_13 ?_
  refine lv_istore_n (lv' := [(3, .int (((x >>> ((nI (4 * a)) &&& 31)) ||| (x >>> ((nI (4 * b)) &&& 31))) &&& (15 : Int32))), (0, .int x), (1, .int (nI a)), (2, .int (nI b))]) (pc := 14) hx hb dX12_traded_14 rfl hl (by decide) rfl (fun ls hl => ?_)
  refine lv_iload_n (pc := 15) hx hb dX12_traded_15 rfl (lv_at hl 1 rfl) ?_
  refine lv_iload_n (pc := 16) hx hb dX12_traded_16 rfl (lv_at hl 0 rfl) ?_
  refine lv_iconst (v := 4) (pc := 17) hx hb dX12_traded_17 (by decide) ?_
  refine lv_iload_n (pc := 18) hx hb dX12_traded_18 rfl (lv_at hl 2 rfl) ?_
  refine lv_imul (pc := 19) hx hb dX12_traded_19 ?_
  refine lv_topi (fun v3 ev3 => ?_)
  obtain rfl : v3 = nI (4 * a) := ev3.trans (pk_mul 4 a)
  refine lv_ishl (pc := 20) hx hb dX12_traded_20 ?_
  refine lv_ior (pc := 21) hx hb dX12_traded_21 ?_
  refine lv_iload_n (pc := 22) hx hb dX12_traded_22 rfl (lv_at hl 0 rfl) ?_
  refine lv_iconst (v := 4) (pc := 23) hx hb dX12_traded_23 (by decide) ?_
  refine lv_iload_n (pc := 24) hx hb dX12_traded_24 rfl (lv_at hl 3 rfl) ?_
  refine lv_imul (pc := 25) hx hb dX12_traded_25 ?_
  refine lv_topi (fun v4 ev4 => ?_)
  obtain rfl : v4 = nI (4 * b) := ev4.trans (pk_mul 4 b)
  refine lv_ishl (pc := 26) hx hb dX12_traded_26 ?_
  refine lv_ior (pc := 27) hx hb dX12_traded_27 ?_
  have hF : F_X12_traded x a b = (x ||| ((((x >>> ((nI (4 * a)) &&& 31)) ||| (x >>> ((nI (4 * b)) &&& 31))) &&& (15 : Int32)) <<< ((nI (4 * a)) &&& 31))) ||| ((((x >>> ((nI (4 * a)) &&& 31)) ||| (x >>> ((nI (4 * b)) &&& 31))) &&& (15 : Int32)) <<< ((nI (4 * b)) &&& 31)) := show F_X12_traded x a b = (x ||| ((((x >>> ((nI (4 * a)) &&& 31)) ||| (x >>> ((nI (4 * b)) &&& 31))) &&& (15 : Int32)) <<< ((nI (4 * a)) &&& 31))) ||| ((((x >>> ((nI (4 * a)) &&& 31)) ||| (x >>> ((nI (4 * b)) &&& 31))) &&& (15 : Int32)) <<< ((nI (4 * b)) &&& 31)) from rfl
  exact e_i (u := []) X hQ hr (hW) [] rfl rfl (⟨hF.symm, rfl⟩) ⟨Nat.le_of_ble_eq_true rfl, Nat.le_of_ble_eq_true rfl⟩ dX12_traded_28

theorem join_eq (x : Int32) (c : Nat) : F_X9_join x c = F_X12_traded x (cAT c) (cBT c) := rfl
def F_X12_meet (cX : Nat → Int32) (q : Nat) (k : Int32) : (Nat → Int32) := (upd cX q (mn2 (cX q) k))
set_option maxHeartbeats 4000000 in
set_option maxRecDepth 100000 in
theorem K_X12_meet (l : Launch) (g : GG) (h0 : Nat) (vs : List Value) (b50 : Nat) (cX : Nat → Int32) (q : Nat) (k : Int32) (hlen : vs.length = 64) (h50_ : vs[50]? = some (.ref b50)) (hq : q < 65536) : MetV l g yX12_meet cX12_meet 3 none 1 0 0 [.ref h0, .int (nI q), .int k] [(h0, .inr (12, vs)), (b50, .inl (g.2.1 1, 65536, .inl cX))] (fun u => u = [(h0, .inr (12, vs)), (b50, .inl (g.2.1 1, 65536, .inl (F_X12_meet cX q k)))]) := by
  refine MetV.of (own := RX12) rfl (by decide) (Nat.le_of_ble_eq_true rfl) ?_
  intro p e s m below meth c A ls args Q hQ X hr hin hW hl
  have hx := X.1
  have hb := X.2.1
  have hl : lv_has ls 3 [(0, .ref h0), (1, .int (nI q)), (2, .int k)] := hl
  refine lv_aload_n (pc := 0) hx hb dX12_meet_0 rfl (lv_at hl 0 rfl) ?_
  refine r_get X hW 0 ciX12 50 rfl (by decide) m_1277 rfl h50_ dX12_meet_1 ?_
  refine lv_iload_n (pc := 4) hx hb dX12_meet_4 rfl (lv_at hl 1 rfl) ?_
  refine lv_aload_n (pc := 5) hx hb dX12_meet_5 rfl (lv_at hl 0 rfl) ?_
  refine r_get X hW 0 ciX12 50 rfl (by decide) m_1277 rfl h50_ dX12_meet_6 ?_
  refine lv_iload_n (pc := 9) hx hb dX12_meet_9 rfl (lv_at hl 1 rfl) ?_
  refine r_iald X hW 1 rfl (vp_in_nI (by omega) (by decide)) dX12_meet_10 ?_
  refine lv_topi (fun v1 ev1 => ?_)
  obtain rfl : v1 = cX q := ev1.trans (by rw [nI_clamp (by omega)])
  refine lv_iload_n (pc := 11) hx hb dX12_meet_11 rfl (lv_at hl 2 rfl) ?_
  refine va_mmin (pc := 12) hx hb (X.2.2.1.trans hl.1.symm) X.2.2.2.1 (X.2.2.2.2.1 _ mm_X12_12) (X.2.2.2.2.1 _ mms_min) (X.2.2.2.2.1 _ m_19) (X.2.2.2.2.1 _ mmc_min) (Nat.le_of_ble_eq_true rfl) (Nat.le_of_ble_eq_true rfl) (Nat.le_of_ble_eq_true rfl) (Nat.le_of_ble_eq_true rfl) dX12_meet_12 ?_
  refine lv_topi (fun v2 ev2 => ?_)
  obtain rfl : v2 = mn2 (cX q) k := ev2.trans (rfl)
  refine r_iast (ws' := [(h0, .inr (12, vs)), (b50, .inl (g.2.1 1, 65536, .inl (upd cX q (mn2 (cX q) k))))]) X hW 1 rfl (vp_in_nI (by omega) (by decide)) (f' := (upd cX q (mn2 (cX q) k))) (by rw [nI_clamp (by omega)]) rfl dX12_meet_15 (fun H locs hW => ?_)
  have hF : F_X12_meet cX q k = (upd cX q (mn2 (cX q) k)) := show F_X12_meet cX q k = (upd cX q (mn2 (cX q) k)) from rfl
  exact e_v (u := [(h0, .inr (12, vs)), (b50, .inl (g.2.1 1, 65536, .inl (upd cX q (mn2 (cX q) k))))]) X hQ hr (hW) [0, 1] rfl rfl (by rw [hF]) ⟨Nat.le_of_ble_eq_true rfl, Nat.le_of_ble_eq_true rfl⟩ dX12_meet_16

/-- the other two -/
def cNT (a b : Nat) : Nat := if a = 0 then (if b = 1 then 2 else 1) else 0
def dNT (a b : Nat) : Nat := if b = 3 then (if a = 2 then 1 else 2) else 3
theorem cd_01 {p : Program} {l : Launch} {e : Env} {R : Room} {s : State} {m : MethodId} {args : Array Value} {below : List Frame} {meth : Method} {c : Code} {H : Heap} {locs : List Loc} {cells slots : Nat} {Q : State → Prop} {ls : Array Slot} {own : String} {g : GG} {A : Nat → Prop} {h0 : Nat} {x1 x2 x3 x4 x5 x6 x9 : Int32} (X : CTX p l m meth c cX12_layTrades 12 s args own g A) (hl : lv_has ls 12 [(10, .int 0), (9, .int x9), (8, .int 1), (7, .int 0), (6, .int x6), (5, .int x5), (4, .int x4), (3, .int x3), (2, .int x2), (0, .ref h0), (1, .int x1)])
    (kk : ∀ ls : Array Slot, lv_has ls 12 [(11, .int 3), (10, .int 2), (9, .int x9), (8, .int 1), (7, .int 0), (6, .int x6), (5, .int x5), (4, .int x4), (3, .int x3), (2, .int x2), (0, .ref h0), (1, .int x1)] → W p l e R s m args below meth c H locs cells slots Q (F0 m 267 ls [])) : W p l e R s m args below meth c H locs cells slots Q (F0 m 221 ls []) := by
  have hx := X.1
  have hb := X.2.1
  refine lv_iload (pc := 221) hx hb dX12_layTrades_221 (lv_at hl 0 rfl) ?_
  refine lv_iload (pc := 223) hx hb dX12_layTrades_223 (lv_at hl 3 rfl) ?_
  refine lv_icmp_eq (tgt := 235) (pc := 225) hx hb dX12_layTrades_225 rfl (fun c1 => ?_) (fun c1 => absurd (by decide) c1)
  refine lv_iinc (v := 1) (lv' := [(10, .int 1), (9, .int x9), (8, .int 1), (7, .int 0), (6, .int x6), (5, .int x5), (4, .int x4), (3, .int x3), (2, .int x2), (0, .ref h0), (1, .int x1)]) (pc := 235) hx hb dX12_layTrades_235 hl (k := 0) rfl (by decide +kernel) (by decide) rfl (fun ls hl => ?_)
  refine lv_goto (tgt := 221) (pc := 238) hx hb dX12_layTrades_238 rfl ?_
  refine lv_iload (pc := 221) hx hb dX12_layTrades_221 (lv_at hl 0 rfl) ?_
  refine lv_iload (pc := 223) hx hb dX12_layTrades_223 (lv_at hl 3 rfl) ?_
  refine lv_icmp_eq (tgt := 235) (pc := 225) hx hb dX12_layTrades_225 rfl (fun c2 => absurd c2 (by decide)) (fun c2 => ?_)
  refine lv_iload (pc := 228) hx hb dX12_layTrades_228 (lv_at hl 0 rfl) ?_
  refine lv_iload (pc := 230) hx hb dX12_layTrades_230 (lv_at hl 2 rfl) ?_
  refine lv_icmp_ne (tgt := 241) (pc := 232) hx hb dX12_layTrades_232 rfl (fun c3 => absurd (by decide) c3) (fun c3 => ?_)
  refine lv_iinc (v := 2) (lv' := [(10, .int 2), (9, .int x9), (8, .int 1), (7, .int 0), (6, .int x6), (5, .int x5), (4, .int x4), (3, .int x3), (2, .int x2), (0, .ref h0), (1, .int x1)]) (pc := 235) hx hb dX12_layTrades_235 hl (k := 0) rfl (by decide +kernel) (by decide) rfl (fun ls hl => ?_)
  refine lv_goto (tgt := 221) (pc := 238) hx hb dX12_layTrades_238 rfl ?_
  refine lv_iload (pc := 221) hx hb dX12_layTrades_221 (lv_at hl 0 rfl) ?_
  refine lv_iload (pc := 223) hx hb dX12_layTrades_223 (lv_at hl 3 rfl) ?_
  refine lv_icmp_eq (tgt := 235) (pc := 225) hx hb dX12_layTrades_225 rfl (fun c4 => absurd c4 (by decide)) (fun c4 => ?_)
  refine lv_iload (pc := 228) hx hb dX12_layTrades_228 (lv_at hl 0 rfl) ?_
  refine lv_iload (pc := 230) hx hb dX12_layTrades_230 (lv_at hl 2 rfl) ?_
  refine lv_icmp_ne (tgt := 241) (pc := 232) hx hb dX12_layTrades_232 rfl (fun c5 => ?_) (fun c5 => absurd c5 (by decide))
  refine lv_iload (pc := 241) hx hb dX12_layTrades_241 (lv_at hl 0 rfl) ?_
  refine lv_iconst (v := 1) (pc := 243) hx hb dX12_layTrades_243 (by decide) ?_
  refine lv_iadd (pc := 244) hx hb dX12_layTrades_244 ?_
  refine lv_topi (fun v6 ev6 => ?_)
  obtain rfl : v6 = 3 := ev6.trans (by decide +kernel)
  refine lv_istore (lv' := [(11, .int 3), (10, .int 2), (9, .int x9), (8, .int 1), (7, .int 0), (6, .int x6), (5, .int x5), (4, .int x4), (3, .int x3), (2, .int x2), (0, .ref h0), (1, .int x1)]) (pc := 245) hx hb dX12_layTrades_245 hl (by decide) rfl (fun ls hl => ?_)
  refine lv_iload (pc := 247) hx hb dX12_layTrades_247 (lv_at hl 0 rfl) ?_
  refine lv_iload (pc := 249) hx hb dX12_layTrades_249 (lv_at hl 4 rfl) ?_
  refine lv_icmp_eq (tgt := 261) (pc := 251) hx hb dX12_layTrades_251 rfl (fun c7 => absurd c7 (by decide)) (fun c7 => ?_)
  refine lv_iload (pc := 254) hx hb dX12_layTrades_254 (lv_at hl 0 rfl) ?_
  refine lv_iload (pc := 256) hx hb dX12_layTrades_256 (lv_at hl 3 rfl) ?_
  refine lv_icmp_ne (tgt := 267) (pc := 258) hx hb dX12_layTrades_258 rfl (fun c8 => ?_) (fun c8 => absurd c8 (by decide))
  exact kk _ (lv_sub hl [0, 1, 2, 3, 4, 5, 6, 7, 8, 9, 10, 11] rfl)
theorem cd_02 {p : Program} {l : Launch} {e : Env} {R : Room} {s : State} {m : MethodId} {args : Array Value} {below : List Frame} {meth : Method} {c : Code} {H : Heap} {locs : List Loc} {cells slots : Nat} {Q : State → Prop} {ls : Array Slot} {own : String} {g : GG} {A : Nat → Prop} {h0 : Nat} {x1 x2 x3 x4 x5 x6 x9 : Int32} (X : CTX p l m meth c cX12_layTrades 12 s args own g A) (hl : lv_has ls 12 [(10, .int 0), (9, .int x9), (8, .int 2), (7, .int 0), (6, .int x6), (5, .int x5), (4, .int x4), (3, .int x3), (2, .int x2), (0, .ref h0), (1, .int x1)])
    (kk : ∀ ls : Array Slot, lv_has ls 12 [(11, .int 3), (10, .int 1), (9, .int x9), (8, .int 2), (7, .int 0), (6, .int x6), (5, .int x5), (4, .int x4), (3, .int x3), (2, .int x2), (0, .ref h0), (1, .int x1)] → W p l e R s m args below meth c H locs cells slots Q (F0 m 267 ls [])) : W p l e R s m args below meth c H locs cells slots Q (F0 m 221 ls []) := by
  have hx := X.1
  have hb := X.2.1
  refine lv_iload (pc := 221) hx hb dX12_layTrades_221 (lv_at hl 0 rfl) ?_
  refine lv_iload (pc := 223) hx hb dX12_layTrades_223 (lv_at hl 3 rfl) ?_
  refine lv_icmp_eq (tgt := 235) (pc := 225) hx hb dX12_layTrades_225 rfl (fun c1 => ?_) (fun c1 => absurd (by decide) c1)
  refine lv_iinc (v := 1) (lv' := [(10, .int 1), (9, .int x9), (8, .int 2), (7, .int 0), (6, .int x6), (5, .int x5), (4, .int x4), (3, .int x3), (2, .int x2), (0, .ref h0), (1, .int x1)]) (pc := 235) hx hb dX12_layTrades_235 hl (k := 0) rfl (by decide +kernel) (by decide) rfl (fun ls hl => ?_)
  refine lv_goto (tgt := 221) (pc := 238) hx hb dX12_layTrades_238 rfl ?_
  refine lv_iload (pc := 221) hx hb dX12_layTrades_221 (lv_at hl 0 rfl) ?_
  refine lv_iload (pc := 223) hx hb dX12_layTrades_223 (lv_at hl 3 rfl) ?_
  refine lv_icmp_eq (tgt := 235) (pc := 225) hx hb dX12_layTrades_225 rfl (fun c2 => absurd c2 (by decide)) (fun c2 => ?_)
  refine lv_iload (pc := 228) hx hb dX12_layTrades_228 (lv_at hl 0 rfl) ?_
  refine lv_iload (pc := 230) hx hb dX12_layTrades_230 (lv_at hl 2 rfl) ?_
  refine lv_icmp_ne (tgt := 241) (pc := 232) hx hb dX12_layTrades_232 rfl (fun c3 => ?_) (fun c3 => absurd c3 (by decide))
  refine lv_iload (pc := 241) hx hb dX12_layTrades_241 (lv_at hl 0 rfl) ?_
  refine lv_iconst (v := 1) (pc := 243) hx hb dX12_layTrades_243 (by decide) ?_
  refine lv_iadd (pc := 244) hx hb dX12_layTrades_244 ?_
  refine lv_topi (fun v4 ev4 => ?_)
  obtain rfl : v4 = 2 := ev4.trans (by decide +kernel)
  refine lv_istore (lv' := [(11, .int 2), (10, .int 1), (9, .int x9), (8, .int 2), (7, .int 0), (6, .int x6), (5, .int x5), (4, .int x4), (3, .int x3), (2, .int x2), (0, .ref h0), (1, .int x1)]) (pc := 245) hx hb dX12_layTrades_245 hl (by decide) rfl (fun ls hl => ?_)
  refine lv_iload (pc := 247) hx hb dX12_layTrades_247 (lv_at hl 0 rfl) ?_
  refine lv_iload (pc := 249) hx hb dX12_layTrades_249 (lv_at hl 4 rfl) ?_
  refine lv_icmp_eq (tgt := 261) (pc := 251) hx hb dX12_layTrades_251 rfl (fun c5 => absurd c5 (by decide)) (fun c5 => ?_)
  refine lv_iload (pc := 254) hx hb dX12_layTrades_254 (lv_at hl 0 rfl) ?_
  refine lv_iload (pc := 256) hx hb dX12_layTrades_256 (lv_at hl 3 rfl) ?_
  refine lv_icmp_ne (tgt := 267) (pc := 258) hx hb dX12_layTrades_258 rfl (fun c6 => absurd (by decide) c6) (fun c6 => ?_)
  refine lv_iinc (v := 3) (lv' := [(11, .int 3), (10, .int 1), (9, .int x9), (8, .int 2), (7, .int 0), (6, .int x6), (5, .int x5), (4, .int x4), (3, .int x3), (2, .int x2), (0, .ref h0), (1, .int x1)]) (pc := 261) hx hb dX12_layTrades_261 hl (k := 0) rfl (by decide +kernel) (by decide) rfl (fun ls hl => ?_)
  refine lv_goto (tgt := 247) (pc := 264) hx hb dX12_layTrades_264 rfl ?_
  refine lv_iload (pc := 247) hx hb dX12_layTrades_247 (lv_at hl 0 rfl) ?_
  refine lv_iload (pc := 249) hx hb dX12_layTrades_249 (lv_at hl 4 rfl) ?_
  refine lv_icmp_eq (tgt := 261) (pc := 251) hx hb dX12_layTrades_251 rfl (fun c7 => absurd c7 (by decide)) (fun c7 => ?_)
  refine lv_iload (pc := 254) hx hb dX12_layTrades_254 (lv_at hl 0 rfl) ?_
  refine lv_iload (pc := 256) hx hb dX12_layTrades_256 (lv_at hl 3 rfl) ?_
  refine lv_icmp_ne (tgt := 267) (pc := 258) hx hb dX12_layTrades_258 rfl (fun c8 => ?_) (fun c8 => absurd c8 (by decide))
  exact kk _ (lv_sub hl [0, 1, 2, 3, 4, 5, 6, 7, 8, 9, 10, 11] rfl)
theorem cd_03 {p : Program} {l : Launch} {e : Env} {R : Room} {s : State} {m : MethodId} {args : Array Value} {below : List Frame} {meth : Method} {c : Code} {H : Heap} {locs : List Loc} {cells slots : Nat} {Q : State → Prop} {ls : Array Slot} {own : String} {g : GG} {A : Nat → Prop} {h0 : Nat} {x1 x2 x3 x4 x5 x6 x9 : Int32} (X : CTX p l m meth c cX12_layTrades 12 s args own g A) (hl : lv_has ls 12 [(10, .int 0), (9, .int x9), (8, .int 3), (7, .int 0), (6, .int x6), (5, .int x5), (4, .int x4), (3, .int x3), (2, .int x2), (0, .ref h0), (1, .int x1)])
    (kk : ∀ ls : Array Slot, lv_has ls 12 [(11, .int 2), (10, .int 1), (9, .int x9), (8, .int 3), (7, .int 0), (6, .int x6), (5, .int x5), (4, .int x4), (3, .int x3), (2, .int x2), (0, .ref h0), (1, .int x1)] → W p l e R s m args below meth c H locs cells slots Q (F0 m 267 ls [])) : W p l e R s m args below meth c H locs cells slots Q (F0 m 221 ls []) := by
  have hx := X.1
  have hb := X.2.1
  refine lv_iload (pc := 221) hx hb dX12_layTrades_221 (lv_at hl 0 rfl) ?_
  refine lv_iload (pc := 223) hx hb dX12_layTrades_223 (lv_at hl 3 rfl) ?_
  refine lv_icmp_eq (tgt := 235) (pc := 225) hx hb dX12_layTrades_225 rfl (fun c1 => ?_) (fun c1 => absurd (by decide) c1)
  refine lv_iinc (v := 1) (lv' := [(10, .int 1), (9, .int x9), (8, .int 3), (7, .int 0), (6, .int x6), (5, .int x5), (4, .int x4), (3, .int x3), (2, .int x2), (0, .ref h0), (1, .int x1)]) (pc := 235) hx hb dX12_layTrades_235 hl (k := 0) rfl (by decide +kernel) (by decide) rfl (fun ls hl => ?_)
  refine lv_goto (tgt := 221) (pc := 238) hx hb dX12_layTrades_238 rfl ?_
  refine lv_iload (pc := 221) hx hb dX12_layTrades_221 (lv_at hl 0 rfl) ?_
  refine lv_iload (pc := 223) hx hb dX12_layTrades_223 (lv_at hl 3 rfl) ?_
  refine lv_icmp_eq (tgt := 235) (pc := 225) hx hb dX12_layTrades_225 rfl (fun c2 => absurd c2 (by decide)) (fun c2 => ?_)
  refine lv_iload (pc := 228) hx hb dX12_layTrades_228 (lv_at hl 0 rfl) ?_
  refine lv_iload (pc := 230) hx hb dX12_layTrades_230 (lv_at hl 2 rfl) ?_
  refine lv_icmp_ne (tgt := 241) (pc := 232) hx hb dX12_layTrades_232 rfl (fun c3 => ?_) (fun c3 => absurd c3 (by decide))
  refine lv_iload (pc := 241) hx hb dX12_layTrades_241 (lv_at hl 0 rfl) ?_
  refine lv_iconst (v := 1) (pc := 243) hx hb dX12_layTrades_243 (by decide) ?_
  refine lv_iadd (pc := 244) hx hb dX12_layTrades_244 ?_
  refine lv_topi (fun v4 ev4 => ?_)
  obtain rfl : v4 = 2 := ev4.trans (by decide +kernel)
  refine lv_istore (lv' := [(11, .int 2), (10, .int 1), (9, .int x9), (8, .int 3), (7, .int 0), (6, .int x6), (5, .int x5), (4, .int x4), (3, .int x3), (2, .int x2), (0, .ref h0), (1, .int x1)]) (pc := 245) hx hb dX12_layTrades_245 hl (by decide) rfl (fun ls hl => ?_)
  refine lv_iload (pc := 247) hx hb dX12_layTrades_247 (lv_at hl 0 rfl) ?_
  refine lv_iload (pc := 249) hx hb dX12_layTrades_249 (lv_at hl 4 rfl) ?_
  refine lv_icmp_eq (tgt := 261) (pc := 251) hx hb dX12_layTrades_251 rfl (fun c5 => absurd c5 (by decide)) (fun c5 => ?_)
  refine lv_iload (pc := 254) hx hb dX12_layTrades_254 (lv_at hl 0 rfl) ?_
  refine lv_iload (pc := 256) hx hb dX12_layTrades_256 (lv_at hl 3 rfl) ?_
  refine lv_icmp_ne (tgt := 267) (pc := 258) hx hb dX12_layTrades_258 rfl (fun c6 => ?_) (fun c6 => absurd c6 (by decide))
  exact kk _ (lv_sub hl [0, 1, 2, 3, 4, 5, 6, 7, 8, 9, 10, 11] rfl)
theorem cd_12 {p : Program} {l : Launch} {e : Env} {R : Room} {s : State} {m : MethodId} {args : Array Value} {below : List Frame} {meth : Method} {c : Code} {H : Heap} {locs : List Loc} {cells slots : Nat} {Q : State → Prop} {ls : Array Slot} {own : String} {g : GG} {A : Nat → Prop} {h0 : Nat} {x1 x2 x3 x4 x5 x6 x9 : Int32} (X : CTX p l m meth c cX12_layTrades 12 s args own g A) (hl : lv_has ls 12 [(10, .int 0), (9, .int x9), (8, .int 2), (7, .int 1), (6, .int x6), (5, .int x5), (4, .int x4), (3, .int x3), (2, .int x2), (0, .ref h0), (1, .int x1)])
    (kk : ∀ ls : Array Slot, lv_has ls 12 [(11, .int 3), (10, .int 0), (9, .int x9), (8, .int 2), (7, .int 1), (6, .int x6), (5, .int x5), (4, .int x4), (3, .int x3), (2, .int x2), (0, .ref h0), (1, .int x1)] → W p l e R s m args below meth c H locs cells slots Q (F0 m 267 ls [])) : W p l e R s m args below meth c H locs cells slots Q (F0 m 221 ls []) := by
  have hx := X.1
  have hb := X.2.1
  refine lv_iload (pc := 221) hx hb dX12_layTrades_221 (lv_at hl 0 rfl) ?_
  refine lv_iload (pc := 223) hx hb dX12_layTrades_223 (lv_at hl 3 rfl) ?_
  refine lv_icmp_eq (tgt := 235) (pc := 225) hx hb dX12_layTrades_225 rfl (fun c1 => absurd c1 (by decide)) (fun c1 => ?_)
  refine lv_iload (pc := 228) hx hb dX12_layTrades_228 (lv_at hl 0 rfl) ?_
  refine lv_iload (pc := 230) hx hb dX12_layTrades_230 (lv_at hl 2 rfl) ?_
  refine lv_icmp_ne (tgt := 241) (pc := 232) hx hb dX12_layTrades_232 rfl (fun c2 => ?_) (fun c2 => absurd c2 (by decide))
  refine lv_iload (pc := 241) hx hb dX12_layTrades_241 (lv_at hl 0 rfl) ?_
  refine lv_iconst (v := 1) (pc := 243) hx hb dX12_layTrades_243 (by decide) ?_
  refine lv_iadd (pc := 244) hx hb dX12_layTrades_244 ?_
  refine lv_topi (fun v3 ev3 => ?_)
  obtain rfl : v3 = 1 := ev3.trans (by decide +kernel)
  refine lv_istore (lv' := [(11, .int 1), (10, .int 0), (9, .int x9), (8, .int 2), (7, .int 1), (6, .int x6), (5, .int x5), (4, .int x4), (3, .int x3), (2, .int x2), (0, .ref h0), (1, .int x1)]) (pc := 245) hx hb dX12_layTrades_245 hl (by decide) rfl (fun ls hl => ?_)
  refine lv_iload (pc := 247) hx hb dX12_layTrades_247 (lv_at hl 0 rfl) ?_
  refine lv_iload (pc := 249) hx hb dX12_layTrades_249 (lv_at hl 4 rfl) ?_
  refine lv_icmp_eq (tgt := 261) (pc := 251) hx hb dX12_layTrades_251 rfl (fun c4 => ?_) (fun c4 => absurd (by decide) c4)
  refine lv_iinc (v := 2) (lv' := [(11, .int 2), (10, .int 0), (9, .int x9), (8, .int 2), (7, .int 1), (6, .int x6), (5, .int x5), (4, .int x4), (3, .int x3), (2, .int x2), (0, .ref h0), (1, .int x1)]) (pc := 261) hx hb dX12_layTrades_261 hl (k := 0) rfl (by decide +kernel) (by decide) rfl (fun ls hl => ?_)
  refine lv_goto (tgt := 247) (pc := 264) hx hb dX12_layTrades_264 rfl ?_
  refine lv_iload (pc := 247) hx hb dX12_layTrades_247 (lv_at hl 0 rfl) ?_
  refine lv_iload (pc := 249) hx hb dX12_layTrades_249 (lv_at hl 4 rfl) ?_
  refine lv_icmp_eq (tgt := 261) (pc := 251) hx hb dX12_layTrades_251 rfl (fun c5 => absurd c5 (by decide)) (fun c5 => ?_)
  refine lv_iload (pc := 254) hx hb dX12_layTrades_254 (lv_at hl 0 rfl) ?_
  refine lv_iload (pc := 256) hx hb dX12_layTrades_256 (lv_at hl 3 rfl) ?_
  refine lv_icmp_ne (tgt := 267) (pc := 258) hx hb dX12_layTrades_258 rfl (fun c6 => absurd (by decide) c6) (fun c6 => ?_)
  refine lv_iinc (v := 3) (lv' := [(11, .int 3), (10, .int 0), (9, .int x9), (8, .int 2), (7, .int 1), (6, .int x6), (5, .int x5), (4, .int x4), (3, .int x3), (2, .int x2), (0, .ref h0), (1, .int x1)]) (pc := 261) hx hb dX12_layTrades_261 hl (k := 0) rfl (by decide +kernel) (by decide) rfl (fun ls hl => ?_)
  refine lv_goto (tgt := 247) (pc := 264) hx hb dX12_layTrades_264 rfl ?_
  refine lv_iload (pc := 247) hx hb dX12_layTrades_247 (lv_at hl 0 rfl) ?_
  refine lv_iload (pc := 249) hx hb dX12_layTrades_249 (lv_at hl 4 rfl) ?_
  refine lv_icmp_eq (tgt := 261) (pc := 251) hx hb dX12_layTrades_251 rfl (fun c7 => absurd c7 (by decide)) (fun c7 => ?_)
  refine lv_iload (pc := 254) hx hb dX12_layTrades_254 (lv_at hl 0 rfl) ?_
  refine lv_iload (pc := 256) hx hb dX12_layTrades_256 (lv_at hl 3 rfl) ?_
  refine lv_icmp_ne (tgt := 267) (pc := 258) hx hb dX12_layTrades_258 rfl (fun c8 => ?_) (fun c8 => absurd c8 (by decide))
  exact kk _ (lv_sub hl [0, 1, 2, 3, 4, 5, 6, 7, 8, 9, 10, 11] rfl)
theorem cd_13 {p : Program} {l : Launch} {e : Env} {R : Room} {s : State} {m : MethodId} {args : Array Value} {below : List Frame} {meth : Method} {c : Code} {H : Heap} {locs : List Loc} {cells slots : Nat} {Q : State → Prop} {ls : Array Slot} {own : String} {g : GG} {A : Nat → Prop} {h0 : Nat} {x1 x2 x3 x4 x5 x6 x9 : Int32} (X : CTX p l m meth c cX12_layTrades 12 s args own g A) (hl : lv_has ls 12 [(10, .int 0), (9, .int x9), (8, .int 3), (7, .int 1), (6, .int x6), (5, .int x5), (4, .int x4), (3, .int x3), (2, .int x2), (0, .ref h0), (1, .int x1)])
    (kk : ∀ ls : Array Slot, lv_has ls 12 [(11, .int 2), (10, .int 0), (9, .int x9), (8, .int 3), (7, .int 1), (6, .int x6), (5, .int x5), (4, .int x4), (3, .int x3), (2, .int x2), (0, .ref h0), (1, .int x1)] → W p l e R s m args below meth c H locs cells slots Q (F0 m 267 ls [])) : W p l e R s m args below meth c H locs cells slots Q (F0 m 221 ls []) := by
  have hx := X.1
  have hb := X.2.1
  refine lv_iload (pc := 221) hx hb dX12_layTrades_221 (lv_at hl 0 rfl) ?_
  refine lv_iload (pc := 223) hx hb dX12_layTrades_223 (lv_at hl 3 rfl) ?_
  refine lv_icmp_eq (tgt := 235) (pc := 225) hx hb dX12_layTrades_225 rfl (fun c1 => absurd c1 (by decide)) (fun c1 => ?_)
  refine lv_iload (pc := 228) hx hb dX12_layTrades_228 (lv_at hl 0 rfl) ?_
  refine lv_iload (pc := 230) hx hb dX12_layTrades_230 (lv_at hl 2 rfl) ?_
  refine lv_icmp_ne (tgt := 241) (pc := 232) hx hb dX12_layTrades_232 rfl (fun c2 => ?_) (fun c2 => absurd c2 (by decide))
  refine lv_iload (pc := 241) hx hb dX12_layTrades_241 (lv_at hl 0 rfl) ?_
  refine lv_iconst (v := 1) (pc := 243) hx hb dX12_layTrades_243 (by decide) ?_
  refine lv_iadd (pc := 244) hx hb dX12_layTrades_244 ?_
  refine lv_topi (fun v3 ev3 => ?_)
  obtain rfl : v3 = 1 := ev3.trans (by decide +kernel)
  refine lv_istore (lv' := [(11, .int 1), (10, .int 0), (9, .int x9), (8, .int 3), (7, .int 1), (6, .int x6), (5, .int x5), (4, .int x4), (3, .int x3), (2, .int x2), (0, .ref h0), (1, .int x1)]) (pc := 245) hx hb dX12_layTrades_245 hl (by decide) rfl (fun ls hl => ?_)
  refine lv_iload (pc := 247) hx hb dX12_layTrades_247 (lv_at hl 0 rfl) ?_
  refine lv_iload (pc := 249) hx hb dX12_layTrades_249 (lv_at hl 4 rfl) ?_
  refine lv_icmp_eq (tgt := 261) (pc := 251) hx hb dX12_layTrades_251 rfl (fun c4 => ?_) (fun c4 => absurd (by decide) c4)
  refine lv_iinc (v := 2) (lv' := [(11, .int 2), (10, .int 0), (9, .int x9), (8, .int 3), (7, .int 1), (6, .int x6), (5, .int x5), (4, .int x4), (3, .int x3), (2, .int x2), (0, .ref h0), (1, .int x1)]) (pc := 261) hx hb dX12_layTrades_261 hl (k := 0) rfl (by decide +kernel) (by decide) rfl (fun ls hl => ?_)
  refine lv_goto (tgt := 247) (pc := 264) hx hb dX12_layTrades_264 rfl ?_
  refine lv_iload (pc := 247) hx hb dX12_layTrades_247 (lv_at hl 0 rfl) ?_
  refine lv_iload (pc := 249) hx hb dX12_layTrades_249 (lv_at hl 4 rfl) ?_
  refine lv_icmp_eq (tgt := 261) (pc := 251) hx hb dX12_layTrades_251 rfl (fun c5 => absurd c5 (by decide)) (fun c5 => ?_)
  refine lv_iload (pc := 254) hx hb dX12_layTrades_254 (lv_at hl 0 rfl) ?_
  refine lv_iload (pc := 256) hx hb dX12_layTrades_256 (lv_at hl 3 rfl) ?_
  refine lv_icmp_ne (tgt := 267) (pc := 258) hx hb dX12_layTrades_258 rfl (fun c6 => ?_) (fun c6 => absurd c6 (by decide))
  exact kk _ (lv_sub hl [0, 1, 2, 3, 4, 5, 6, 7, 8, 9, 10, 11] rfl)
theorem cd_23 {p : Program} {l : Launch} {e : Env} {R : Room} {s : State} {m : MethodId} {args : Array Value} {below : List Frame} {meth : Method} {c : Code} {H : Heap} {locs : List Loc} {cells slots : Nat} {Q : State → Prop} {ls : Array Slot} {own : String} {g : GG} {A : Nat → Prop} {h0 : Nat} {x1 x2 x3 x4 x5 x6 x9 : Int32} (X : CTX p l m meth c cX12_layTrades 12 s args own g A) (hl : lv_has ls 12 [(10, .int 0), (9, .int x9), (8, .int 3), (7, .int 2), (6, .int x6), (5, .int x5), (4, .int x4), (3, .int x3), (2, .int x2), (0, .ref h0), (1, .int x1)])
    (kk : ∀ ls : Array Slot, lv_has ls 12 [(11, .int 1), (10, .int 0), (9, .int x9), (8, .int 3), (7, .int 2), (6, .int x6), (5, .int x5), (4, .int x4), (3, .int x3), (2, .int x2), (0, .ref h0), (1, .int x1)] → W p l e R s m args below meth c H locs cells slots Q (F0 m 267 ls [])) : W p l e R s m args below meth c H locs cells slots Q (F0 m 221 ls []) := by
  have hx := X.1
  have hb := X.2.1
  refine lv_iload (pc := 221) hx hb dX12_layTrades_221 (lv_at hl 0 rfl) ?_
  refine lv_iload (pc := 223) hx hb dX12_layTrades_223 (lv_at hl 3 rfl) ?_
  refine lv_icmp_eq (tgt := 235) (pc := 225) hx hb dX12_layTrades_225 rfl (fun c1 => absurd c1 (by decide)) (fun c1 => ?_)
  refine lv_iload (pc := 228) hx hb dX12_layTrades_228 (lv_at hl 0 rfl) ?_
  refine lv_iload (pc := 230) hx hb dX12_layTrades_230 (lv_at hl 2 rfl) ?_
  refine lv_icmp_ne (tgt := 241) (pc := 232) hx hb dX12_layTrades_232 rfl (fun c2 => ?_) (fun c2 => absurd c2 (by decide))
  refine lv_iload (pc := 241) hx hb dX12_layTrades_241 (lv_at hl 0 rfl) ?_
  refine lv_iconst (v := 1) (pc := 243) hx hb dX12_layTrades_243 (by decide) ?_
  refine lv_iadd (pc := 244) hx hb dX12_layTrades_244 ?_
  refine lv_topi (fun v3 ev3 => ?_)
  obtain rfl : v3 = 1 := ev3.trans (by decide +kernel)
  refine lv_istore (lv' := [(11, .int 1), (10, .int 0), (9, .int x9), (8, .int 3), (7, .int 2), (6, .int x6), (5, .int x5), (4, .int x4), (3, .int x3), (2, .int x2), (0, .ref h0), (1, .int x1)]) (pc := 245) hx hb dX12_layTrades_245 hl (by decide) rfl (fun ls hl => ?_)
  refine lv_iload (pc := 247) hx hb dX12_layTrades_247 (lv_at hl 0 rfl) ?_
  refine lv_iload (pc := 249) hx hb dX12_layTrades_249 (lv_at hl 4 rfl) ?_
  refine lv_icmp_eq (tgt := 261) (pc := 251) hx hb dX12_layTrades_251 rfl (fun c4 => absurd c4 (by decide)) (fun c4 => ?_)
  refine lv_iload (pc := 254) hx hb dX12_layTrades_254 (lv_at hl 0 rfl) ?_
  refine lv_iload (pc := 256) hx hb dX12_layTrades_256 (lv_at hl 3 rfl) ?_
  refine lv_icmp_ne (tgt := 267) (pc := 258) hx hb dX12_layTrades_258 rfl (fun c5 => ?_) (fun c5 => absurd c5 (by decide))
  exact kk _ (lv_sub hl [0, 1, 2, 3, 4, 5, 6, 7, 8, 9, 10, 11] rfl)
theorem cd_step {p : Program} {l : Launch} {e : Env} {R : Room} {s : State} {m : MethodId} {args : Array Value} {below : List Frame} {meth : Method} {c : Code} {H : Heap} {locs : List Loc} {cells slots : Nat} {Q : State → Prop} {ls : Array Slot} {own : String} {g : GG} {A : Nat → Prop} {h0 : Nat} {x1 x2 x3 x4 x5 x6 x9 : Int32} (X : CTX p l m meth c cX12_layTrades 12 s args own g A) {a b : Nat} (hab : a < b) (hb4 : b < 4) (hl : lv_has ls 12 [(10, .int 0), (9, .int x9), (8, .int (nI b)), (7, .int (nI a)), (6, .int x6), (5, .int x5), (4, .int x4), (3, .int x3), (2, .int x2), (0, .ref h0), (1, .int x1)])
    (kk : ∀ ls : Array Slot, lv_has ls 12 [(11, .int (nI (dNT a b))), (10, .int (nI (cNT a b))), (9, .int x9), (8, .int (nI b)), (7, .int (nI a)), (6, .int x6), (5, .int x5), (4, .int x4), (3, .int x3), (2, .int x2), (0, .ref h0), (1, .int x1)] → W p l e R s m args below meth c H locs cells slots Q (F0 m 267 ls [])) : W p l e R s m args below meth c H locs cells slots Q (F0 m 221 ls []) := by
  have h6 : (a = 0 ∧ b = 1) ∨ (a = 0 ∧ b = 2) ∨ (a = 0 ∧ b = 3) ∨ (a = 1 ∧ b = 2) ∨ (a = 1 ∧ b = 3) ∨ (a = 2 ∧ b = 3) := by omega
  rcases h6 with ⟨rfl, rfl⟩ | ⟨rfl, rfl⟩ | ⟨rfl, rfl⟩ | ⟨rfl, rfl⟩ | ⟨rfl, rfl⟩ | ⟨rfl, rfl⟩
  · exact cd_01 X hl kk
  · exact cd_02 X hl kk
  · exact cd_03 X hl kk
  · exact cd_12 X hl kk
  · exact cd_13 X hl kk
  · exact cd_23 X hl kk
theorem cNT_lt (a b : Nat) : cNT a b < 4 := by unfold cNT; (repeat' split) <;> decide
theorem dNT_lt (a b : Nat) : dNT a b < 4 := by unfold dNT; (repeat' split) <;> decide
theorem sB_0 {k : Nat} : sB k 0 := fun i _ _ => b_0 i
theorem sB_nI {k s : Nat} (hs : s < 2 ^ k) : sB k (nI s) := fun i a b => by
  show (BitVec.ofNat 32 s).getLsbD i = false
  rw [BitVec.getLsbD_ofNat]
  have : s.testBit i = false := Nat.testBit_lt_two_pow (Nat.lt_of_lt_of_le hs (Nat.pow_le_pow_right (by decide) a))
  rw [this, Bool.and_false]
theorem tr_num {x : Int32} {a b : Nat} (ha : a < 4) (hb : b < 4) (hx : sB 16 x) : sB 16 (F_X12_traded x a b) := sB_or (sB_or hx (sB_15s (by omega) (by omega))) (sB_15s (by omega) (by omega))
theorem tr_nat {s a b : Nat} (ha : a < 4) (hb : b < 4) (hs : s < 65536) : F_X12_traded (nI s) a b = nI (tN (F_X12_traded (nI s) a b)) ∧ tN (F_X12_traded (nI s) a b) < 65536 := sB_num (k := 16) (by decide) (tr_num ha hb (sB_nI hs))
theorem bg_ok : ∀ o : Nat, o < 4 → ∀ i : Nat, i < 32 → 16 ≤ i → bt ((1 : Int32) <<< (nI (5 * o) &&& 31)) i = false := by decide +kernel
theorem en_ok : ∀ p : Nat, p < 5 → ∀ o : Nat, o < 4 → ∀ i : Nat, i < 32 → 16 ≤ i → bt (((1 : Int32) <<< (nI p &&& 31) - 1) <<< (nI (4 * o) &&& 31)) i = false := by decide +kernel
def L8_X12_layTradess (rA : Nat → Int32) (rB : Nat → Int32) (rF : Nat → Int32) (rT : Nat → Int32) (rW : Nat → Int32) (rO : Nat → Int32) (lc : Nat) (pe : Nat) (i : Nat) (j3 : Nat) (fb49_3 : Nat → Int32) (j5 : Nat) (j7 : Nat) (j8 : Nat) (fb50_8 : Nat → Int32) : (Nat → Int32) := if F_X12_mayTrade rA rB rF rT rW rO lc i j7 ((j7 + 1) + j8) (j3 + 1) = 0 then (fb50_8) else (if nI pe ≤ nI (dNT j7 ((j7 + 1) + j8)) then ((F_X12_meet fb50_8 (tN (F_X12_traded (nI j5) j7 ((j7 + 1) + j8))) ((fb49_3 j5) + (1 : Int32)))) else (if F_X12_mayTrade rA rB rF rT rW rO lc i (cNT j7 ((j7 + 1) + j8)) (dNT j7 ((j7 + 1) + j8)) (j3 + 1) = 0 then ((F_X12_meet fb50_8 (tN (F_X12_traded (nI j5) j7 ((j7 + 1) + j8))) ((fb49_3 j5) + (1 : Int32)))) else ((F_X12_meet (F_X12_meet fb50_8 (tN (F_X12_traded (nI j5) j7 ((j7 + 1) + j8))) ((fb49_3 j5) + (1 : Int32))) (tN (F_X12_traded (nI (tN (F_X12_traded (nI j5) j7 ((j7 + 1) + j8)))) (cNT j7 ((j7 + 1) + j8)) (dNT j7 ((j7 + 1) + j8)))) ((fb49_3 j5) + (2 : Int32))))))
def L8_X12_layTrades (rA : Nat → Int32) (rB : Nat → Int32) (rF : Nat → Int32) (rT : Nat → Int32) (rW : Nat → Int32) (rO : Nat → Int32) (lc : Nat) (pe : Nat) (i : Nat) (j3 : Nat) (fb49_3 : Nat → Int32) (j5 : Nat) (j7 : Nat) (i0_ : Nat → Int32) : Nat → (Nat → Int32)
  | 0 => (i0_)
  | k_ + 1 => L8_X12_layTradess rA rB rF rT rW rO lc pe i j3 fb49_3 j5 j7 k_ (L8_X12_layTrades rA rB rF rT rW rO lc pe i j3 fb49_3 j5 j7 i0_ k_)
def L7_X12_layTradess (rA : Nat → Int32) (rB : Nat → Int32) (rF : Nat → Int32) (rT : Nat → Int32) (rW : Nat → Int32) (rO : Nat → Int32) (lc : Nat) (pe : Nat) (i : Nat) (j3 : Nat) (fb49_3 : Nat → Int32) (j5 : Nat) (j7 : Nat) (fb50_7 : Nat → Int32) : (Nat → Int32) := (L8_X12_layTrades rA rB rF rT rW rO lc pe i j3 fb49_3 j5 j7 fb50_7 (pe - (j7 + 1)))
def L7_X12_layTrades (rA : Nat → Int32) (rB : Nat → Int32) (rF : Nat → Int32) (rT : Nat → Int32) (rW : Nat → Int32) (rO : Nat → Int32) (lc : Nat) (pe : Nat) (i : Nat) (j3 : Nat) (fb49_3 : Nat → Int32) (j5 : Nat) (i0_ : Nat → Int32) : Nat → (Nat → Int32)
  | 0 => (i0_)
  | k_ + 1 => L7_X12_layTradess rA rB rF rT rW rO lc pe i j3 fb49_3 j5 k_ (L7_X12_layTrades rA rB rF rT rW rO lc pe i j3 fb49_3 j5 i0_ k_)
def L5_X12_layTradess (rA : Nat → Int32) (rB : Nat → Int32) (rF : Nat → Int32) (rT : Nat → Int32) (rW : Nat → Int32) (rO : Nat → Int32) (lc : Nat) (pe : Nat) (i : Nat) (j3 : Nat) (fb49_3 : Nat → Int32) (j5 : Nat) (fb50_5 : Nat → Int32) : (Nat → Int32) := if fb49_3 j5 = 99 then (fb50_5) else ((L7_X12_layTrades rA rB rF rT rW rO lc pe i j3 fb49_3 j5 fb50_5 pe))
def L5_X12_layTrades (rA : Nat → Int32) (rB : Nat → Int32) (rF : Nat → Int32) (rT : Nat → Int32) (rW : Nat → Int32) (rO : Nat → Int32) (lc : Nat) (pe : Nat) (i : Nat) (j3 : Nat) (fb49_3 : Nat → Int32) (i0_ : Nat → Int32) : Nat → (Nat → Int32)
  | 0 => (i0_)
  | k_ + 1 => L5_X12_layTradess rA rB rF rT rW rO lc pe i j3 fb49_3 k_ (L5_X12_layTrades rA rB rF rT rW rO lc pe i j3 fb49_3 i0_ k_)
def L4_X12_layTradess (fb49_3 : Nat → Int32) (j4 : Nat) (fb50_4 : Nat → Int32) : (Nat → Int32) := (upd fb50_4 j4 (fb49_3 j4))
def L4_X12_layTrades (fb49_3 : Nat → Int32) (i0_ : Nat → Int32) : Nat → (Nat → Int32)
  | 0 => (i0_)
  | k_ + 1 => L4_X12_layTradess fb49_3 k_ (L4_X12_layTrades fb49_3 i0_ k_)
def L6_X12_layTradess (rA : Nat → Int32) (rB : Nat → Int32) (rF : Nat → Int32) (rT : Nat → Int32) (rW : Nat → Int32) (rO : Nat → Int32) (lc : Nat) (pe : Nat) (i : Nat) (j3 : Nat) (fb49_3 : Nat → Int32) (fb50_3 : Nat → Int32) (j6 : Nat) (fb49_6 : Nat → Int32) : (Nat → Int32) := (upd fb49_6 j6 ((L5_X12_layTrades rA rB rF rT rW rO lc pe i j3 fb49_3 (L4_X12_layTrades fb49_3 fb50_3 65536) 65536) j6))
def L6_X12_layTrades (rA : Nat → Int32) (rB : Nat → Int32) (rF : Nat → Int32) (rT : Nat → Int32) (rW : Nat → Int32) (rO : Nat → Int32) (lc : Nat) (pe : Nat) (i : Nat) (j3 : Nat) (fb49_3 : Nat → Int32) (fb50_3 : Nat → Int32) (i0_ : Nat → Int32) : Nat → (Nat → Int32)
  | 0 => (i0_)
  | k_ + 1 => L6_X12_layTradess rA rB rF rT rW rO lc pe i j3 fb49_3 fb50_3 k_ (L6_X12_layTrades rA rB rF rT rW rO lc pe i j3 fb49_3 fb50_3 i0_ k_)
def L2_X12_layTradess (pe : Nat) (j2 : Nat) (x4_2 : Int32) (x3_2 : Int32) : Int32 × Int32 := (x4_2 ||| ((((1 : Int32) <<< ((nI pe) &&& 31)) - (1 : Int32)) <<< ((nI (4 * j2)) &&& 31)), x3_2 ||| ((1 : Int32) <<< ((nI (5 * j2)) &&& 31)))
def L2_X12_layTrades (pe : Nat) (i0_ : Int32) (i1_ : Int32) : Nat → Int32 × Int32
  | 0 => (i0_, i1_)
  | k_ + 1 => L2_X12_layTradess pe k_ ((L2_X12_layTrades pe i0_ i1_ k_).1) ((L2_X12_layTrades pe i0_ i1_ k_).2)
def L3_X12_layTradess (rA : Nat → Int32) (rB : Nat → Int32) (rF : Nat → Int32) (rT : Nat → Int32) (rW : Nat → Int32) (rO : Nat → Int32) (lc : Nat) (pe : Nat) (i : Nat) (j3 : Nat) (fb49_3 : Nat → Int32) (fb50_3 : Nat → Int32) (fb51_3 : Nat → Int32) : (Nat → Int32) × (Nat → Int32) × (Nat → Int32) := ((L6_X12_layTrades rA rB rF rT rW rO lc pe i j3 fb49_3 fb50_3 fb49_3 65536), (L5_X12_layTrades rA rB rF rT rW rO lc pe i j3 fb49_3 (L4_X12_layTrades fb49_3 fb50_3 65536) 65536), (upd fb51_3 (j3 + 1) ((L6_X12_layTrades rA rB rF rT rW rO lc pe i j3 fb49_3 fb50_3 fb49_3 65536) (tN ((L2_X12_layTrades pe (0 : Int32) (0 : Int32) pe).1)))))
def L3_X12_layTrades (rA : Nat → Int32) (rB : Nat → Int32) (rF : Nat → Int32) (rT : Nat → Int32) (rW : Nat → Int32) (rO : Nat → Int32) (lc : Nat) (pe : Nat) (i : Nat) (i0_ : Nat → Int32) (i1_ : Nat → Int32) (i2_ : Nat → Int32) : Nat → (Nat → Int32) × (Nat → Int32) × (Nat → Int32)
  | 0 => (i0_, i1_, i2_)
  | k_ + 1 => L3_X12_layTradess rA rB rF rT rW rO lc pe i k_ ((L3_X12_layTrades rA rB rF rT rW rO lc pe i i0_ i1_ i2_ k_).1) ((L3_X12_layTrades rA rB rF rT rW rO lc pe i i0_ i1_ i2_ k_).2.1) ((L3_X12_layTrades rA rB rF rT rW rO lc pe i i0_ i1_ i2_ k_).2.2)
def L1_X12_layTradess  (j1 : Nat) (fb49_1 : Nat → Int32) : (Nat → Int32) := (upd fb49_1 j1 (99 : Int32))
def L1_X12_layTrades  (i0_ : Nat → Int32) : Nat → (Nat → Int32)
  | 0 => (i0_)
  | k_ + 1 => L1_X12_layTradess  k_ (L1_X12_layTrades  i0_ k_)
def F_X12_layTrades (rA : Nat → Int32) (rB : Nat → Int32) (rF : Nat → Int32) (rT : Nat → Int32) (rW : Nat → Int32) (rO : Nat → Int32) (cC : Nat → Int32) (cX : Nat → Int32) (tC : Nat → Int32) (lc : Nat) (pe : Nat) (i : Nat) : (Nat → Int32) × (Nat → Int32) × (Nat → Int32) := (((L3_X12_layTrades rA rB rF rT rW rO lc pe i (upd (L1_X12_layTrades cC 65536) (tN ((L2_X12_layTrades pe (0 : Int32) (0 : Int32) pe).2)) (0 : Int32)) cX tC 8).1), ((L3_X12_layTrades rA rB rF rT rW rO lc pe i (upd (L1_X12_layTrades cC 65536) (tN ((L2_X12_layTrades pe (0 : Int32) (0 : Int32) pe).2)) (0 : Int32)) cX tC 8).2.1), ((L3_X12_layTrades rA rB rF rT rW rO lc pe i (upd (L1_X12_layTrades cC 65536) (tN ((L2_X12_layTrades pe (0 : Int32) (0 : Int32) pe).2)) (0 : Int32)) cX tC 8).2.2))
set_option maxHeartbeats 4000000 in
set_option maxRecDepth 100000 in
theorem K_X12_layTrades (l : Launch) (g : GG) (h0 : Nat) (vs : List Value) (b6 : Nat) (rP : Nat → Int32) (b7 : Nat) (rL : Nat → Int32) (b12 : Nat) (rA : Nat → Int32) (b13 : Nat) (rB : Nat → Int32) (b14 : Nat) (rF : Nat → Int32) (b15 : Nat) (rT : Nat → Int32) (b16 : Nat) (rW : Nat → Int32) (b17 : Nat) (rO : Nat → Int32) (b49 : Nat) (cC : Nat → Int32) (b50 : Nat) (cX : Nat → Int32) (b51 : Nat) (tC : Nat → Int32) (lc : Nat) (pe : Nat) (i : Nat) (hlen : vs.length = 64) (h6_ : vs[6]? = some (.ref b6)) (h7_ : vs[7]? = some (.ref b7)) (h12_ : vs[12]? = some (.ref b12)) (h13_ : vs[13]? = some (.ref b13)) (h14_ : vs[14]? = some (.ref b14)) (h15_ : vs[15]? = some (.ref b15)) (h16_ : vs[16]? = some (.ref b16)) (h17_ : vs[17]? = some (.ref b17)) (h49_ : vs[49]? = some (.ref b49)) (h50_ : vs[50]? = some (.ref b50)) (h51_ : vs[51]? = some (.ref b51)) (hi : i < 11) (hlc : lc ≤ 12) (hL : rL i = nI lc) (hpe : pe ≤ 4) (hP : rP i = nI pe) : MetV l g yX12_layTrades cX12_layTrades 12 none 2 0 0 [.ref h0, .int (nI i)] [(h0, .inr (12, vs)), (b6, .inl (g.2.1 1, 11, .inl rP)), (b7, .inl (g.2.1 1, 11, .inl rL)), (b12, .inl (g.2.1 1, 132, .inl rA)), (b13, .inl (g.2.1 1, 132, .inl rB)), (b14, .inl (g.2.1 1, 132, .inl rF)), (b15, .inl (g.2.1 1, 132, .inl rT)), (b16, .inl (g.2.1 1, 132, .inl rW)), (b17, .inl (g.2.1 3, 132, .inl rO)), (b49, .inl (g.2.1 1, 65536, .inl cC)), (b50, .inl (g.2.1 1, 65536, .inl cX)), (b51, .inl (g.2.1 1, 9, .inl tC))] (fun u => u = [(h0, .inr (12, vs)), (b6, .inl (g.2.1 1, 11, .inl rP)), (b7, .inl (g.2.1 1, 11, .inl rL)), (b12, .inl (g.2.1 1, 132, .inl rA)), (b13, .inl (g.2.1 1, 132, .inl rB)), (b14, .inl (g.2.1 1, 132, .inl rF)), (b15, .inl (g.2.1 1, 132, .inl rT)), (b16, .inl (g.2.1 1, 132, .inl rW)), (b17, .inl (g.2.1 3, 132, .inl rO)), (b49, .inl (g.2.1 1, 65536, .inl ((F_X12_layTrades rA rB rF rT rW rO cC cX tC lc pe i).1))), (b50, .inl (g.2.1 1, 65536, .inl ((F_X12_layTrades rA rB rF rT rW rO cC cX tC lc pe i).2.1))), (b51, .inl (g.2.1 1, 9, .inl ((F_X12_layTrades rA rB rF rT rW rO cC cX tC lc pe i).2.2)))]) := by
  refine MetV.of (own := RX12) rfl (by decide) (Nat.le_of_ble_eq_true rfl) ?_
  intro p e s m below meth c A ls args Q hQ X hr hin hW hl
  have hx := X.1
  have hb := X.2.1
  have hl : lv_has ls 12 [(0, .ref h0), (1, .int (nI i))] := hl
  refine lv_aload_n (pc := 0) hx hb dX12_layTrades_0 rfl (lv_at hl 0 rfl) ?_
  refine r_get X hW 0 ciX12 6 rfl (by decide) m_1237 rfl h6_ dX12_layTrades_1 ?_
  refine lv_iload_n (pc := 4) hx hb dX12_layTrades_4 rfl (lv_at hl 1 rfl) ?_
  refine r_iald X hW 1 rfl (vp_in_nI (by omega) (by decide)) dX12_layTrades_5 ?_
  refine lv_topi (fun v1 ev1 => ?_)
  obtain rfl : v1 = rP i := ev1.trans (by rw [nI_clamp (by omega)])
  rw [hP]
  refine lv_istore_n (lv' := [(2, .int (nI pe)), (0, .ref h0), (1, .int (nI i))]) (pc := 6) hx hb dX12_layTrades_6 rfl hl (by decide) rfl (fun ls hl => ?_)
  refine lv_iconst (v := 0) (pc := 7) hx hb dX12_layTrades_7 (by decide) ?_
  refine lv_istore_n (lv' := [(3, .int 0), (2, .int (nI pe)), (0, .ref h0), (1, .int (nI i))]) (pc := 8) hx hb dX12_layTrades_8 rfl hl (by decide) rfl (fun ls hl => ?_)
  have loop1 : ∀ (fu1 : Nat) (j1 : Nat) (fb49_1 : Nat → Int32), (65536 < fu1 + j1) → (j1 ≤ 65536) → (fb49_1 = L1_X12_layTrades cC j1) → ∀ (H : Heap) (locs : List Loc) (ls : Array Slot), WD g A s H locs [(h0, .inr (12, vs)), (b6, .inl (g.2.1 1, 11, .inl rP)), (b7, .inl (g.2.1 1, 11, .inl rL)), (b12, .inl (g.2.1 1, 132, .inl rA)), (b13, .inl (g.2.1 1, 132, .inl rB)), (b14, .inl (g.2.1 1, 132, .inl rF)), (b15, .inl (g.2.1 1, 132, .inl rT)), (b16, .inl (g.2.1 1, 132, .inl rW)), (b17, .inl (g.2.1 3, 132, .inl rO)), (b49, .inl (g.2.1 1, 65536, .inl fb49_1)), (b50, .inl (g.2.1 1, 65536, .inl cX)), (b51, .inl (g.2.1 1, 9, .inl tC))] → lv_has ls 12 [(3, .int (nI j1)), (2, .int (nI pe)), (0, .ref h0), (1, .int (nI i))] → W p l e (RM 2 0 0) s m args below meth c H locs 0 0 Q (F0 m 9 ls []) := by
    intro fu1
    induction fu1 with
    | zero =>
      intro j1 fb49_1 hm1 hj1 hst1
      exact absurd hm1 (by omega)
    | succ fu1 ih1 =>
      intro j1 fb49_1 hm1 hj1 hst1 H locs ls hW hl
      refine lv_iload_n (pc := 9) hx hb dX12_layTrades_9 rfl (lv_at hl 0 rfl) ?_
      refine lv_aload_n (pc := 10) hx hb dX12_layTrades_10 rfl (lv_at hl 2 rfl) ?_
      refine r_get X hW 0 ciX12 49 rfl (by decide) m_1276 rfl h49_ dX12_layTrades_11 ?_
      refine r_alen (v := 65536) X hW 9 1 rfl rfl rfl dX12_layTrades_14 ?_
      refine lv_icmp_ge (tgt := 32) (pc := 15) hx hb dX12_layTrades_15 rfl (fun c2 => ?_) (fun c2 => ?_)
      · have h3 : 65536 ≤ j1 := (nI_leI (a := 65536) (b := j1) (by omega) (by omega)).mp c2
        have hN1 : j1 = 65536 := by omega
        rw [hN1] at hst1
        subst hst1
        have hW : WD g A s _ _ [(h0, .inr (12, vs)), (b6, .inl (g.2.1 1, 11, .inl rP)), (b7, .inl (g.2.1 1, 11, .inl rL)), (b12, .inl (g.2.1 1, 132, .inl rA)), (b13, .inl (g.2.1 1, 132, .inl rB)), (b14, .inl (g.2.1 1, 132, .inl rF)), (b15, .inl (g.2.1 1, 132, .inl rT)), (b16, .inl (g.2.1 1, 132, .inl rW)), (b17, .inl (g.2.1 3, 132, .inl rO)), (b49, .inl (g.2.1 1, 65536, .inl (L1_X12_layTrades cC 65536))), (b50, .inl (g.2.1 1, 65536, .inl cX)), (b51, .inl (g.2.1 1, 9, .inl tC))] := hW
        refine lv_iconst (v := 0) (pc := 32) hx hb dX12_layTrades_32 (by decide) ?_
        refine lv_istore_n (lv' := [(3, .int 0), (2, .int (nI pe)), (0, .ref h0), (1, .int (nI i))]) (pc := 33) hx hb dX12_layTrades_33 rfl hl (by decide) rfl (fun ls hl => ?_)
        refine lv_iconst (v := 0) (pc := 34) hx hb dX12_layTrades_34 (by decide) ?_
        refine lv_istore (lv' := [(4, .int 0), (3, .int 0), (2, .int (nI pe)), (0, .ref h0), (1, .int (nI i))]) (pc := 35) hx hb dX12_layTrades_35 hl (by decide) rfl (fun ls hl => ?_)
        refine lv_iconst (v := 0) (pc := 37) hx hb dX12_layTrades_37 (by decide) ?_
        refine lv_istore (lv' := [(5, .int 0), (4, .int 0), (3, .int 0), (2, .int (nI pe)), (0, .ref h0), (1, .int (nI i))]) (pc := 38) hx hb dX12_layTrades_38 hl (by decide) rfl (fun ls hl => ?_)
        have loop2 : ∀ (fu2 : Nat) (j2 : Nat) (x4_2 : Int32) (x3_2 : Int32), (pe < fu2 + j2) → (j2 ≤ pe) → (sB 16 x3_2) → (sB 16 x4_2) → ((x4_2, x3_2) = L2_X12_layTrades pe (0 : Int32) (0 : Int32) j2) → ∀ (H : Heap) (locs : List Loc) (ls : Array Slot), WD g A s H locs [(h0, .inr (12, vs)), (b6, .inl (g.2.1 1, 11, .inl rP)), (b7, .inl (g.2.1 1, 11, .inl rL)), (b12, .inl (g.2.1 1, 132, .inl rA)), (b13, .inl (g.2.1 1, 132, .inl rB)), (b14, .inl (g.2.1 1, 132, .inl rF)), (b15, .inl (g.2.1 1, 132, .inl rT)), (b16, .inl (g.2.1 1, 132, .inl rW)), (b17, .inl (g.2.1 3, 132, .inl rO)), (b49, .inl (g.2.1 1, 65536, .inl (L1_X12_layTrades cC 65536))), (b50, .inl (g.2.1 1, 65536, .inl cX)), (b51, .inl (g.2.1 1, 9, .inl tC))] → lv_has ls 12 [(5, .int (nI j2)), (4, .int x4_2), (3, .int x3_2), (2, .int (nI pe)), (0, .ref h0), (1, .int (nI i))] → W p l e (RM 2 0 0) s m args below meth c H locs 0 0 Q (F0 m 40 ls []) := by
          intro fu2
          induction fu2 with
          | zero =>
            intro j2 x4_2 x3_2 hm2 hj2 hb2 he2 hst2
            exact absurd hm2 (by omega)
          | succ fu2 ih2 =>
            intro j2 x4_2 x3_2 hm2 hj2 hb2 he2 hst2 H locs ls hW hl
            refine lv_iload (pc := 40) hx hb dX12_layTrades_40 (lv_at hl 0 rfl) ?_
            refine lv_iload_n (pc := 42) hx hb dX12_layTrades_42 rfl (lv_at hl 3 rfl) ?_
            refine lv_icmp_ge (tgt := 76) (pc := 43) hx hb dX12_layTrades_43 rfl (fun c4 => ?_) (fun c4 => ?_)
            · have h5 : pe ≤ j2 := (nI_leI (a := pe) (b := j2) (by omega) (by omega)).mp c4
              have hN2 : j2 = pe := by omega
              rw [hN2] at hst2
              have hs2_0 : x4_2 = (L2_X12_layTrades pe (0 : Int32) (0 : Int32) pe).1 := by rw [← hst2]
              have hs2_1 : x3_2 = (L2_X12_layTrades pe (0 : Int32) (0 : Int32) pe).2 := congrArg (fun z => z.2) hst2
              clear hst2
              subst hs2_0
              subst hs2_1
              have hW : WD g A s _ _ [(h0, .inr (12, vs)), (b6, .inl (g.2.1 1, 11, .inl rP)), (b7, .inl (g.2.1 1, 11, .inl rL)), (b12, .inl (g.2.1 1, 132, .inl rA)), (b13, .inl (g.2.1 1, 132, .inl rB)), (b14, .inl (g.2.1 1, 132, .inl rF)), (b15, .inl (g.2.1 1, 132, .inl rT)), (b16, .inl (g.2.1 1, 132, .inl rW)), (b17, .inl (g.2.1 3, 132, .inl rO)), (b49, .inl (g.2.1 1, 65536, .inl (L1_X12_layTrades cC 65536))), (b50, .inl (g.2.1 1, 65536, .inl cX)), (b51, .inl (g.2.1 1, 9, .inl tC))] := hW
              refine lv_aload_n (pc := 76) hx hb dX12_layTrades_76 rfl (lv_at hl 4 rfl) ?_
              refine r_get X hW 0 ciX12 49 rfl (by decide) m_1276 rfl h49_ dX12_layTrades_77 ?_
              refine lv_iload_n (pc := 80) hx hb dX12_layTrades_80 rfl (lv_at hl 2 rfl) ?_
              have hq16 := sB_num (k := 16) (by decide) hb2
              have hq17 := hq16.2
              rw [hq16.1]
              refine lv_iconst (v := 0) (pc := 81) hx hb dX12_layTrades_81 (by decide) ?_
              refine r_iast (ws' := [(h0, .inr (12, vs)), (b6, .inl (g.2.1 1, 11, .inl rP)), (b7, .inl (g.2.1 1, 11, .inl rL)), (b12, .inl (g.2.1 1, 132, .inl rA)), (b13, .inl (g.2.1 1, 132, .inl rB)), (b14, .inl (g.2.1 1, 132, .inl rF)), (b15, .inl (g.2.1 1, 132, .inl rT)), (b16, .inl (g.2.1 1, 132, .inl rW)), (b17, .inl (g.2.1 3, 132, .inl rO)), (b49, .inl (g.2.1 1, 65536, .inl (upd (L1_X12_layTrades cC 65536) (tN ((L2_X12_layTrades pe (0 : Int32) (0 : Int32) pe).2)) (0 : Int32)))), (b50, .inl (g.2.1 1, 65536, .inl cX)), (b51, .inl (g.2.1 1, 9, .inl tC))]) X hW 9 rfl (vp_in_nI (by omega) (by decide)) (f' := (upd (L1_X12_layTrades cC 65536) (tN ((L2_X12_layTrades pe (0 : Int32) (0 : Int32) pe).2)) (0 : Int32))) (by rw [nI_clamp (by omega)]) rfl dX12_layTrades_82 (fun H locs hW => ?_)
              refine lv_iconst (v := 1) (pc := 83) hx hb dX12_layTrades_83 (by decide) ?_
              refine lv_istore (lv' := [(5, .int 1), (4, .int ((L2_X12_layTrades pe (0 : Int32) (0 : Int32) pe).1)), (3, .int ((L2_X12_layTrades pe (0 : Int32) (0 : Int32) pe).2)), (2, .int (nI pe)), (0, .ref h0), (1, .int (nI i))]) (pc := 84) hx hb dX12_layTrades_84 hl (by decide) rfl (fun ls hl => ?_)
              have loop3 : ∀ (fu3 : Nat) (j3 : Nat) (fb49_3 : Nat → Int32) (fb50_3 : Nat → Int32) (fb51_3 : Nat → Int32), (8 < fu3 + j3) → (j3 ≤ 8) → ((fb49_3, fb50_3, fb51_3) = L3_X12_layTrades rA rB rF rT rW rO lc pe i (upd (L1_X12_layTrades cC 65536) (tN ((L2_X12_layTrades pe (0 : Int32) (0 : Int32) pe).2)) (0 : Int32)) cX tC j3) → ∀ (H : Heap) (locs : List Loc) (ls : Array Slot), WD g A s H locs [(h0, .inr (12, vs)), (b6, .inl (g.2.1 1, 11, .inl rP)), (b7, .inl (g.2.1 1, 11, .inl rL)), (b12, .inl (g.2.1 1, 132, .inl rA)), (b13, .inl (g.2.1 1, 132, .inl rB)), (b14, .inl (g.2.1 1, 132, .inl rF)), (b15, .inl (g.2.1 1, 132, .inl rT)), (b16, .inl (g.2.1 1, 132, .inl rW)), (b17, .inl (g.2.1 3, 132, .inl rO)), (b49, .inl (g.2.1 1, 65536, .inl fb49_3)), (b50, .inl (g.2.1 1, 65536, .inl fb50_3)), (b51, .inl (g.2.1 1, 9, .inl fb51_3))] → lv_has ls 12 [(5, .int (nI (j3 + 1))), (4, .int ((L2_X12_layTrades pe (0 : Int32) (0 : Int32) pe).1)), (3, .int ((L2_X12_layTrades pe (0 : Int32) (0 : Int32) pe).2)), (2, .int (nI pe)), (0, .ref h0), (1, .int (nI i))] → W p l e (RM 2 0 0) s m args below meth c H locs 0 0 Q (F0 m 86 ls []) := by
                intro fu3
                induction fu3 with
                | zero =>
                  intro j3 fb49_3 fb50_3 fb51_3 hm3 hj3 hst3
                  exact absurd hm3 (by omega)
                | succ fu3 ih3 =>
                  intro j3 fb49_3 fb50_3 fb51_3 hm3 hj3 hst3 H locs ls hW hl
                  refine lv_iload (pc := 86) hx hb dX12_layTrades_86 (lv_at hl 0 rfl) ?_
                  refine lv_bipush (v := 8) (pc := 88) hx hb dX12_layTrades_88 (by decide) ?_
                  refine lv_icmp_gt (tgt := 380) (pc := 90) hx hb dX12_layTrades_90 rfl (fun c6 => ?_) (fun c6 => ?_)
                  · have h7 : 8 < (j3 + 1) := (nI_ltI (a := 8) (b := (j3 + 1)) (by omega) (by omega)).mp c6
                    have hN3 : j3 = 8 := by omega
                    rw [hN3] at hst3
                    have hF : F_X12_layTrades rA rB rF rT rW rO cC cX tC lc pe i = (fb49_3, fb50_3, fb51_3) := (show F_X12_layTrades rA rB rF rT rW rO cC cX tC lc pe i = (((L3_X12_layTrades rA rB rF rT rW rO lc pe i (upd (L1_X12_layTrades cC 65536) (tN ((L2_X12_layTrades pe (0 : Int32) (0 : Int32) pe).2)) (0 : Int32)) cX tC 8).1), ((L3_X12_layTrades rA rB rF rT rW rO lc pe i (upd (L1_X12_layTrades cC 65536) (tN ((L2_X12_layTrades pe (0 : Int32) (0 : Int32) pe).2)) (0 : Int32)) cX tC 8).2.1), ((L3_X12_layTrades rA rB rF rT rW rO lc pe i (upd (L1_X12_layTrades cC 65536) (tN ((L2_X12_layTrades pe (0 : Int32) (0 : Int32) pe).2)) (0 : Int32)) cX tC 8).2.2)) from rfl).trans (by rw [← hst3])
                    exact e_v (u := [(h0, .inr (12, vs)), (b6, .inl (g.2.1 1, 11, .inl rP)), (b7, .inl (g.2.1 1, 11, .inl rL)), (b12, .inl (g.2.1 1, 132, .inl rA)), (b13, .inl (g.2.1 1, 132, .inl rB)), (b14, .inl (g.2.1 1, 132, .inl rF)), (b15, .inl (g.2.1 1, 132, .inl rT)), (b16, .inl (g.2.1 1, 132, .inl rW)), (b17, .inl (g.2.1 3, 132, .inl rO)), (b49, .inl (g.2.1 1, 65536, .inl fb49_3)), (b50, .inl (g.2.1 1, 65536, .inl fb50_3)), (b51, .inl (g.2.1 1, 9, .inl fb51_3))]) X hQ hr (hW) [0, 1, 2, 3, 4, 5, 6, 7, 8, 9, 10, 11] rfl rfl (by rw [hF]) ⟨Nat.le_of_ble_eq_true rfl, Nat.le_of_ble_eq_true rfl⟩ dX12_layTrades_380
                  · have h8 : ¬ (8 < (j3 + 1)) := fun q => c6 ((nI_ltI (a := 8) (b := (j3 + 1)) (by omega) (by omega)).mpr q)
                    refine lv_iconst (v := 0) (pc := 93) hx hb dX12_layTrades_93 (by decide) ?_
                    refine lv_istore (lv' := [(6, .int 0), (5, .int (nI (j3 + 1))), (4, .int ((L2_X12_layTrades pe (0 : Int32) (0 : Int32) pe).1)), (3, .int ((L2_X12_layTrades pe (0 : Int32) (0 : Int32) pe).2)), (2, .int (nI pe)), (0, .ref h0), (1, .int (nI i))]) (pc := 94) hx hb dX12_layTrades_94 hl (by decide) rfl (fun ls hl => ?_)
                    have loop4 : ∀ (fu4 : Nat) (j4 : Nat) (fb50_4 : Nat → Int32), (65536 < fu4 + j4) → (j4 ≤ 65536) → (fb50_4 = L4_X12_layTrades fb49_3 fb50_3 j4) → ∀ (H : Heap) (locs : List Loc) (ls : Array Slot), WD g A s H locs [(h0, .inr (12, vs)), (b6, .inl (g.2.1 1, 11, .inl rP)), (b7, .inl (g.2.1 1, 11, .inl rL)), (b12, .inl (g.2.1 1, 132, .inl rA)), (b13, .inl (g.2.1 1, 132, .inl rB)), (b14, .inl (g.2.1 1, 132, .inl rF)), (b15, .inl (g.2.1 1, 132, .inl rT)), (b16, .inl (g.2.1 1, 132, .inl rW)), (b17, .inl (g.2.1 3, 132, .inl rO)), (b49, .inl (g.2.1 1, 65536, .inl fb49_3)), (b50, .inl (g.2.1 1, 65536, .inl fb50_4)), (b51, .inl (g.2.1 1, 9, .inl fb51_3))] → lv_has ls 12 [(6, .int (nI j4)), (5, .int (nI (j3 + 1))), (4, .int ((L2_X12_layTrades pe (0 : Int32) (0 : Int32) pe).1)), (3, .int ((L2_X12_layTrades pe (0 : Int32) (0 : Int32) pe).2)), (2, .int (nI pe)), (0, .ref h0), (1, .int (nI i))] → W p l e (RM 2 0 0) s m args below meth c H locs 0 0 Q (F0 m 96 ls []) := by
                      intro fu4
                      induction fu4 with
                      | zero =>
                        intro j4 fb50_4 hm4 hj4 hst4
                        exact absurd hm4 (by omega)
                      | succ fu4 ih4 =>
                        intro j4 fb50_4 hm4 hj4 hst4 H locs ls hW hl
                        refine lv_iload (pc := 96) hx hb dX12_layTrades_96 (lv_at hl 0 rfl) ?_
                        refine lv_aload_n (pc := 98) hx hb dX12_layTrades_98 rfl (lv_at hl 5 rfl) ?_
                        refine r_get X hW 0 ciX12 49 rfl (by decide) m_1276 rfl h49_ dX12_layTrades_99 ?_
                        refine r_alen (v := 65536) X hW 9 1 rfl rfl rfl dX12_layTrades_102 ?_
                        refine lv_icmp_ge (tgt := 126) (pc := 103) hx hb dX12_layTrades_103 rfl (fun c9 => ?_) (fun c9 => ?_)
                        · have h10 : 65536 ≤ j4 := (nI_leI (a := 65536) (b := j4) (by omega) (by omega)).mp c9
                          have hN4 : j4 = 65536 := by omega
                          rw [hN4] at hst4
                          subst hst4
                          have hW : WD g A s _ _ [(h0, .inr (12, vs)), (b6, .inl (g.2.1 1, 11, .inl rP)), (b7, .inl (g.2.1 1, 11, .inl rL)), (b12, .inl (g.2.1 1, 132, .inl rA)), (b13, .inl (g.2.1 1, 132, .inl rB)), (b14, .inl (g.2.1 1, 132, .inl rF)), (b15, .inl (g.2.1 1, 132, .inl rT)), (b16, .inl (g.2.1 1, 132, .inl rW)), (b17, .inl (g.2.1 3, 132, .inl rO)), (b49, .inl (g.2.1 1, 65536, .inl fb49_3)), (b50, .inl (g.2.1 1, 65536, .inl (L4_X12_layTrades fb49_3 fb50_3 65536))), (b51, .inl (g.2.1 1, 9, .inl fb51_3))] := hW
                          refine lv_iconst (v := 0) (pc := 126) hx hb dX12_layTrades_126 (by decide) ?_
                          refine lv_istore (lv' := [(6, .int 0), (5, .int (nI (j3 + 1))), (4, .int ((L2_X12_layTrades pe (0 : Int32) (0 : Int32) pe).1)), (3, .int ((L2_X12_layTrades pe (0 : Int32) (0 : Int32) pe).2)), (2, .int (nI pe)), (0, .ref h0), (1, .int (nI i))]) (pc := 127) hx hb dX12_layTrades_127 hl (by decide) rfl (fun ls hl => ?_)
                          have loop5 : ∀ (fu5 : Nat) (j5 : Nat) (fb50_5 : Nat → Int32), (65536 < fu5 + j5) → (j5 ≤ 65536) → (fb50_5 = L5_X12_layTrades rA rB rF rT rW rO lc pe i j3 fb49_3 (L4_X12_layTrades fb49_3 fb50_3 65536) j5) → ∀ (H : Heap) (locs : List Loc) (ls : Array Slot), WD g A s H locs [(h0, .inr (12, vs)), (b6, .inl (g.2.1 1, 11, .inl rP)), (b7, .inl (g.2.1 1, 11, .inl rL)), (b12, .inl (g.2.1 1, 132, .inl rA)), (b13, .inl (g.2.1 1, 132, .inl rB)), (b14, .inl (g.2.1 1, 132, .inl rF)), (b15, .inl (g.2.1 1, 132, .inl rT)), (b16, .inl (g.2.1 1, 132, .inl rW)), (b17, .inl (g.2.1 3, 132, .inl rO)), (b49, .inl (g.2.1 1, 65536, .inl fb49_3)), (b50, .inl (g.2.1 1, 65536, .inl fb50_5)), (b51, .inl (g.2.1 1, 9, .inl fb51_3))] → lv_has ls 12 [(6, .int (nI j5)), (5, .int (nI (j3 + 1))), (4, .int ((L2_X12_layTrades pe (0 : Int32) (0 : Int32) pe).1)), (3, .int ((L2_X12_layTrades pe (0 : Int32) (0 : Int32) pe).2)), (2, .int (nI pe)), (0, .ref h0), (1, .int (nI i))] → W p l e (RM 2 0 0) s m args below meth c H locs 0 0 Q (F0 m 129 ls []) := by
                            intro fu5
                            induction fu5 with
                            | zero =>
                              intro j5 fb50_5 hm5 hj5 hst5
                              exact absurd hm5 (by omega)
                            | succ fu5 ih5 =>
                              intro j5 fb50_5 hm5 hj5 hst5 H locs ls hW hl
                              refine lv_iload (pc := 129) hx hb dX12_layTrades_129 (lv_at hl 0 rfl) ?_
                              refine lv_aload_n (pc := 131) hx hb dX12_layTrades_131 rfl (lv_at hl 5 rfl) ?_
                              refine r_get X hW 0 ciX12 49 rfl (by decide) m_1276 rfl h49_ dX12_layTrades_132 ?_
                              refine r_alen (v := 65536) X hW 9 1 rfl rfl rfl dX12_layTrades_135 ?_
                              refine lv_icmp_ge (tgt := 327) (pc := 136) hx hb dX12_layTrades_136 rfl (fun c11 => ?_) (fun c11 => ?_)
                              · have h12 : 65536 ≤ j5 := (nI_leI (a := 65536) (b := j5) (by omega) (by omega)).mp c11
                                have hN5 : j5 = 65536 := by omega
                                rw [hN5] at hst5
                                subst hst5
                                have hW : WD g A s _ _ [(h0, .inr (12, vs)), (b6, .inl (g.2.1 1, 11, .inl rP)), (b7, .inl (g.2.1 1, 11, .inl rL)), (b12, .inl (g.2.1 1, 132, .inl rA)), (b13, .inl (g.2.1 1, 132, .inl rB)), (b14, .inl (g.2.1 1, 132, .inl rF)), (b15, .inl (g.2.1 1, 132, .inl rT)), (b16, .inl (g.2.1 1, 132, .inl rW)), (b17, .inl (g.2.1 3, 132, .inl rO)), (b49, .inl (g.2.1 1, 65536, .inl fb49_3)), (b50, .inl (g.2.1 1, 65536, .inl (L5_X12_layTrades rA rB rF rT rW rO lc pe i j3 fb49_3 (L4_X12_layTrades fb49_3 fb50_3 65536) 65536))), (b51, .inl (g.2.1 1, 9, .inl fb51_3))] := hW
                                refine lv_iconst (v := 0) (pc := 327) hx hb dX12_layTrades_327 (by decide) ?_
                                refine lv_istore (lv' := [(6, .int 0), (5, .int (nI (j3 + 1))), (4, .int ((L2_X12_layTrades pe (0 : Int32) (0 : Int32) pe).1)), (3, .int ((L2_X12_layTrades pe (0 : Int32) (0 : Int32) pe).2)), (2, .int (nI pe)), (0, .ref h0), (1, .int (nI i))]) (pc := 328) hx hb dX12_layTrades_328 hl (by decide) rfl (fun ls hl => ?_)
                                have loop6 : ∀ (fu6 : Nat) (j6 : Nat) (fb49_6 : Nat → Int32), (65536 < fu6 + j6) → (j6 ≤ 65536) → (fb49_6 = L6_X12_layTrades rA rB rF rT rW rO lc pe i j3 fb49_3 fb50_3 fb49_3 j6) → ∀ (H : Heap) (locs : List Loc) (ls : Array Slot), WD g A s H locs [(h0, .inr (12, vs)), (b6, .inl (g.2.1 1, 11, .inl rP)), (b7, .inl (g.2.1 1, 11, .inl rL)), (b12, .inl (g.2.1 1, 132, .inl rA)), (b13, .inl (g.2.1 1, 132, .inl rB)), (b14, .inl (g.2.1 1, 132, .inl rF)), (b15, .inl (g.2.1 1, 132, .inl rT)), (b16, .inl (g.2.1 1, 132, .inl rW)), (b17, .inl (g.2.1 3, 132, .inl rO)), (b49, .inl (g.2.1 1, 65536, .inl fb49_6)), (b50, .inl (g.2.1 1, 65536, .inl (L5_X12_layTrades rA rB rF rT rW rO lc pe i j3 fb49_3 (L4_X12_layTrades fb49_3 fb50_3 65536) 65536))), (b51, .inl (g.2.1 1, 9, .inl fb51_3))] → lv_has ls 12 [(6, .int (nI j6)), (5, .int (nI (j3 + 1))), (4, .int ((L2_X12_layTrades pe (0 : Int32) (0 : Int32) pe).1)), (3, .int ((L2_X12_layTrades pe (0 : Int32) (0 : Int32) pe).2)), (2, .int (nI pe)), (0, .ref h0), (1, .int (nI i))] → W p l e (RM 2 0 0) s m args below meth c H locs 0 0 Q (F0 m 330 ls []) := by
                                  intro fu6
                                  induction fu6 with
                                  | zero =>
                                    intro j6 fb49_6 hm6 hj6 hst6
                                    exact absurd hm6 (by omega)
                                  | succ fu6 ih6 =>
                                    intro j6 fb49_6 hm6 hj6 hst6 H locs ls hW hl
                                    refine lv_iload (pc := 330) hx hb dX12_layTrades_330 (lv_at hl 0 rfl) ?_
                                    refine lv_aload_n (pc := 332) hx hb dX12_layTrades_332 rfl (lv_at hl 5 rfl) ?_
                                    refine r_get X hW 0 ciX12 49 rfl (by decide) m_1276 rfl h49_ dX12_layTrades_333 ?_
                                    refine r_alen (v := 65536) X hW 9 1 rfl rfl rfl dX12_layTrades_336 ?_
                                    refine lv_icmp_ge (tgt := 360) (pc := 337) hx hb dX12_layTrades_337 rfl (fun c13 => ?_) (fun c13 => ?_)
                                    · have h14 : 65536 ≤ j6 := (nI_leI (a := 65536) (b := j6) (by omega) (by omega)).mp c13
                                      have hN6 : j6 = 65536 := by omega
                                      rw [hN6] at hst6
                                      subst hst6
                                      have hW : WD g A s _ _ [(h0, .inr (12, vs)), (b6, .inl (g.2.1 1, 11, .inl rP)), (b7, .inl (g.2.1 1, 11, .inl rL)), (b12, .inl (g.2.1 1, 132, .inl rA)), (b13, .inl (g.2.1 1, 132, .inl rB)), (b14, .inl (g.2.1 1, 132, .inl rF)), (b15, .inl (g.2.1 1, 132, .inl rT)), (b16, .inl (g.2.1 1, 132, .inl rW)), (b17, .inl (g.2.1 3, 132, .inl rO)), (b49, .inl (g.2.1 1, 65536, .inl (L6_X12_layTrades rA rB rF rT rW rO lc pe i j3 fb49_3 fb50_3 fb49_3 65536))), (b50, .inl (g.2.1 1, 65536, .inl (L5_X12_layTrades rA rB rF rT rW rO lc pe i j3 fb49_3 (L4_X12_layTrades fb49_3 fb50_3 65536) 65536))), (b51, .inl (g.2.1 1, 9, .inl fb51_3))] := hW
                                      refine lv_aload_n (pc := 360) hx hb dX12_layTrades_360 rfl (lv_at hl 5 rfl) ?_
                                      refine r_get X hW 0 ciX12 51 rfl (by decide) m_1278 rfl h51_ dX12_layTrades_361 ?_
                                      refine lv_iload (pc := 364) hx hb dX12_layTrades_364 (lv_at hl 1 rfl) ?_
                                      refine lv_aload_n (pc := 366) hx hb dX12_layTrades_366 rfl (lv_at hl 5 rfl) ?_
                                      refine r_get X hW 0 ciX12 49 rfl (by decide) m_1276 rfl h49_ dX12_layTrades_367 ?_
                                      refine lv_iload (pc := 370) hx hb dX12_layTrades_370 (lv_at hl 2 rfl) ?_
                                      have hq16 := sB_num (k := 16) (by decide) he2
                                      have hq17 := hq16.2
                                      rw [hq16.1]
                                      refine r_iald X hW 9 rfl (vp_in_nI (by omega) (by decide)) dX12_layTrades_372 ?_
                                      refine lv_topi (fun v15 ev15 => ?_)
                                      obtain rfl : v15 = (L6_X12_layTrades rA rB rF rT rW rO lc pe i j3 fb49_3 fb50_3 fb49_3 65536) (tN ((L2_X12_layTrades pe (0 : Int32) (0 : Int32) pe).1)) := ev15.trans (by rw [nI_clamp (by omega)])
                                      refine r_iast (ws' := [(h0, .inr (12, vs)), (b6, .inl (g.2.1 1, 11, .inl rP)), (b7, .inl (g.2.1 1, 11, .inl rL)), (b12, .inl (g.2.1 1, 132, .inl rA)), (b13, .inl (g.2.1 1, 132, .inl rB)), (b14, .inl (g.2.1 1, 132, .inl rF)), (b15, .inl (g.2.1 1, 132, .inl rT)), (b16, .inl (g.2.1 1, 132, .inl rW)), (b17, .inl (g.2.1 3, 132, .inl rO)), (b49, .inl (g.2.1 1, 65536, .inl (L6_X12_layTrades rA rB rF rT rW rO lc pe i j3 fb49_3 fb50_3 fb49_3 65536))), (b50, .inl (g.2.1 1, 65536, .inl (L5_X12_layTrades rA rB rF rT rW rO lc pe i j3 fb49_3 (L4_X12_layTrades fb49_3 fb50_3 65536) 65536))), (b51, .inl (g.2.1 1, 9, .inl (upd fb51_3 (j3 + 1) ((L6_X12_layTrades rA rB rF rT rW rO lc pe i j3 fb49_3 fb50_3 fb49_3 65536) (tN ((L2_X12_layTrades pe (0 : Int32) (0 : Int32) pe).1))))))]) X hW 11 rfl (vp_in_nI (by omega) (by decide)) (f' := (upd fb51_3 (j3 + 1) ((L6_X12_layTrades rA rB rF rT rW rO lc pe i j3 fb49_3 fb50_3 fb49_3 65536) (tN ((L2_X12_layTrades pe (0 : Int32) (0 : Int32) pe).1))))) (by rw [nI_clamp (by omega)]) rfl dX12_layTrades_373 (fun H locs hW => ?_)
                                      refine lv_iinc (v := nI (j3 + 1 + 1)) (lv' := [(5, .int (nI (j3 + 1 + 1))), (6, .int (nI j6)), (4, .int ((L2_X12_layTrades pe (0 : Int32) (0 : Int32) pe).1)), (3, .int ((L2_X12_layTrades pe (0 : Int32) (0 : Int32) pe).2)), (2, .int (nI pe)), (0, .ref h0), (1, .int (nI i))]) (pc := 374) hx hb dX12_layTrades_374 hl (k := 1) rfl (nI_add (j3 + 1) 1) (by decide) rfl (fun ls hl => ?_)
                                      refine lv_goto (tgt := 86) (pc := 377) hx hb dX12_layTrades_377 rfl ?_
                                      exact ih3 (j3 + 1) (L6_X12_layTrades rA rB rF rT rW rO lc pe i j3 fb49_3 fb50_3 fb49_3 65536) (L5_X12_layTrades rA rB rF rT rW rO lc pe i j3 fb49_3 (L4_X12_layTrades fb49_3 fb50_3 65536) 65536) (upd fb51_3 (j3 + 1) ((L6_X12_layTrades rA rB rF rT rW rO lc pe i j3 fb49_3 fb50_3 fb49_3 65536) (tN ((L2_X12_layTrades pe (0 : Int32) (0 : Int32) pe).1)))) (by omega) (by omega) (by rw [L3_X12_layTrades, ← hst3]; exact (show L3_X12_layTradess rA rB rF rT rW rO lc pe i j3 fb49_3 fb50_3 fb51_3 = ((L6_X12_layTrades rA rB rF rT rW rO lc pe i j3 fb49_3 fb50_3 fb49_3 65536), (L5_X12_layTrades rA rB rF rT rW rO lc pe i j3 fb49_3 (L4_X12_layTrades fb49_3 fb50_3 65536) 65536), (upd fb51_3 (j3 + 1) ((L6_X12_layTrades rA rB rF rT rW rO lc pe i j3 fb49_3 fb50_3 fb49_3 65536) (tN ((L2_X12_layTrades pe (0 : Int32) (0 : Int32) pe).1))))) from rfl).symm) _ _ _ hW (lv_sub hl [0, 2, 3, 4, 5, 6] rfl)
                                    · have h16 : ¬ (65536 ≤ j6) := fun q => c13 ((nI_leI (a := 65536) (b := j6) (by omega) (by omega)).mpr q)
                                      refine lv_aload_n (pc := 340) hx hb dX12_layTrades_340 rfl (lv_at hl 5 rfl) ?_
                                      refine r_get X hW 0 ciX12 49 rfl (by decide) m_1276 rfl h49_ dX12_layTrades_341 ?_
                                      refine lv_iload (pc := 344) hx hb dX12_layTrades_344 (lv_at hl 0 rfl) ?_
                                      refine lv_aload_n (pc := 346) hx hb dX12_layTrades_346 rfl (lv_at hl 5 rfl) ?_
                                      refine r_get X hW 0 ciX12 50 rfl (by decide) m_1277 rfl h50_ dX12_layTrades_347 ?_
                                      refine lv_iload (pc := 350) hx hb dX12_layTrades_350 (lv_at hl 0 rfl) ?_
                                      refine r_iald X hW 10 rfl (vp_in_nI (by omega) (by decide)) dX12_layTrades_352 ?_
                                      refine lv_topi (fun v17 ev17 => ?_)
                                      obtain rfl : v17 = (L5_X12_layTrades rA rB rF rT rW rO lc pe i j3 fb49_3 (L4_X12_layTrades fb49_3 fb50_3 65536) 65536) j6 := ev17.trans (by rw [nI_clamp (by omega)])
                                      refine r_iast (ws' := [(h0, .inr (12, vs)), (b6, .inl (g.2.1 1, 11, .inl rP)), (b7, .inl (g.2.1 1, 11, .inl rL)), (b12, .inl (g.2.1 1, 132, .inl rA)), (b13, .inl (g.2.1 1, 132, .inl rB)), (b14, .inl (g.2.1 1, 132, .inl rF)), (b15, .inl (g.2.1 1, 132, .inl rT)), (b16, .inl (g.2.1 1, 132, .inl rW)), (b17, .inl (g.2.1 3, 132, .inl rO)), (b49, .inl (g.2.1 1, 65536, .inl (upd fb49_6 j6 ((L5_X12_layTrades rA rB rF rT rW rO lc pe i j3 fb49_3 (L4_X12_layTrades fb49_3 fb50_3 65536) 65536) j6)))), (b50, .inl (g.2.1 1, 65536, .inl (L5_X12_layTrades rA rB rF rT rW rO lc pe i j3 fb49_3 (L4_X12_layTrades fb49_3 fb50_3 65536) 65536))), (b51, .inl (g.2.1 1, 9, .inl fb51_3))]) X hW 9 rfl (vp_in_nI (by omega) (by decide)) (f' := (upd fb49_6 j6 ((L5_X12_layTrades rA rB rF rT rW rO lc pe i j3 fb49_3 (L4_X12_layTrades fb49_3 fb50_3 65536) 65536) j6))) (by rw [nI_clamp (by omega)]) rfl dX12_layTrades_353 (fun H locs hW => ?_)
                                      refine lv_iinc (v := nI (j6 + 1)) (lv' := [(6, .int (nI (j6 + 1))), (5, .int (nI (j3 + 1))), (4, .int ((L2_X12_layTrades pe (0 : Int32) (0 : Int32) pe).1)), (3, .int ((L2_X12_layTrades pe (0 : Int32) (0 : Int32) pe).2)), (2, .int (nI pe)), (0, .ref h0), (1, .int (nI i))]) (pc := 354) hx hb dX12_layTrades_354 hl (k := 0) rfl (nI_add j6 1) (by decide) rfl (fun ls hl => ?_)
                                      refine lv_goto (tgt := 330) (pc := 357) hx hb dX12_layTrades_357 rfl ?_
                                      exact ih6 (j6 + 1) (upd fb49_6 j6 ((L5_X12_layTrades rA rB rF rT rW rO lc pe i j3 fb49_3 (L4_X12_layTrades fb49_3 fb50_3 65536) 65536) j6)) (by omega) (by omega) (by rw [L6_X12_layTrades, ← hst6]; exact (show L6_X12_layTradess rA rB rF rT rW rO lc pe i j3 fb49_3 fb50_3 j6 fb49_6 = (upd fb49_6 j6 ((L5_X12_layTrades rA rB rF rT rW rO lc pe i j3 fb49_3 (L4_X12_layTrades fb49_3 fb50_3 65536) 65536) j6)) from rfl).symm) _ _ _ hW (lv_sub hl [0, 1, 2, 3, 4, 5, 6] rfl)
                                exact loop6 (65536 + 1) 0 fb49_3 (by omega) (by omega) rfl _ _ _ hW (lv_sub hl [0, 1, 2, 3, 4, 5, 6] rfl)
                              · have h18 : ¬ (65536 ≤ j5) := fun q => c11 ((nI_leI (a := 65536) (b := j5) (by omega) (by omega)).mpr q)
                                refine lv_aload_n (pc := 139) hx hb dX12_layTrades_139 rfl (lv_at hl 5 rfl) ?_
                                refine r_get X hW 0 ciX12 49 rfl (by decide) m_1276 rfl h49_ dX12_layTrades_140 ?_
                                refine lv_iload (pc := 143) hx hb dX12_layTrades_143 (lv_at hl 0 rfl) ?_
                                refine r_iald X hW 9 rfl (vp_in_nI (by omega) (by decide)) dX12_layTrades_145 ?_
                                refine lv_topi (fun v19 ev19 => ?_)
                                obtain rfl : v19 = fb49_3 j5 := ev19.trans (by rw [nI_clamp (by omega)])
                                refine lv_bipush (v := 99) (pc := 146) hx hb dX12_layTrades_146 (by decide) ?_
                                refine lv_icmp_ne (tgt := 154) (pc := 148) hx hb dX12_layTrades_148 rfl (fun c20 => ?_) (fun c20 => ?_)
                                · refine lv_iconst (v := 0) (pc := 154) hx hb dX12_layTrades_154 (by decide) ?_
                                  refine lv_istore (lv' := [(7, .int 0), (6, .int (nI j5)), (5, .int (nI (j3 + 1))), (4, .int ((L2_X12_layTrades pe (0 : Int32) (0 : Int32) pe).1)), (3, .int ((L2_X12_layTrades pe (0 : Int32) (0 : Int32) pe).2)), (2, .int (nI pe)), (0, .ref h0), (1, .int (nI i))]) (pc := 155) hx hb dX12_layTrades_155 hl (by decide) rfl (fun ls hl => ?_)
                                  have loop7 : ∀ (fu7 : Nat) (j7 : Nat) (fb50_7 : Nat → Int32), (pe < fu7 + j7) → (j7 ≤ pe) → (fb50_7 = L7_X12_layTrades rA rB rF rT rW rO lc pe i j3 fb49_3 j5 fb50_5 j7) → ∀ (H : Heap) (locs : List Loc) (ls : Array Slot), WD g A s H locs [(h0, .inr (12, vs)), (b6, .inl (g.2.1 1, 11, .inl rP)), (b7, .inl (g.2.1 1, 11, .inl rL)), (b12, .inl (g.2.1 1, 132, .inl rA)), (b13, .inl (g.2.1 1, 132, .inl rB)), (b14, .inl (g.2.1 1, 132, .inl rF)), (b15, .inl (g.2.1 1, 132, .inl rT)), (b16, .inl (g.2.1 1, 132, .inl rW)), (b17, .inl (g.2.1 3, 132, .inl rO)), (b49, .inl (g.2.1 1, 65536, .inl fb49_3)), (b50, .inl (g.2.1 1, 65536, .inl fb50_7)), (b51, .inl (g.2.1 1, 9, .inl fb51_3))] → lv_has ls 12 [(7, .int (nI j7)), (6, .int (nI j5)), (5, .int (nI (j3 + 1))), (4, .int ((L2_X12_layTrades pe (0 : Int32) (0 : Int32) pe).1)), (3, .int ((L2_X12_layTrades pe (0 : Int32) (0 : Int32) pe).2)), (2, .int (nI pe)), (0, .ref h0), (1, .int (nI i))] → W p l e (RM 2 0 0) s m args below meth c H locs 0 0 Q (F0 m 157 ls []) := by
                                    intro fu7
                                    induction fu7 with
                                    | zero =>
                                      intro j7 fb50_7 hm7 hj7 hst7
                                      exact absurd hm7 (by omega)
                                    | succ fu7 ih7 =>
                                      intro j7 fb50_7 hm7 hj7 hst7 H locs ls hW hl
                                      refine lv_iload (pc := 157) hx hb dX12_layTrades_157 (lv_at hl 0 rfl) ?_
                                      refine lv_iload_n (pc := 159) hx hb dX12_layTrades_159 rfl (lv_at hl 5 rfl) ?_
                                      refine lv_icmp_ge (tgt := 321) (pc := 160) hx hb dX12_layTrades_160 rfl (fun c22 => ?_) (fun c22 => ?_)
                                      · have h23 : pe ≤ j7 := (nI_leI (a := pe) (b := j7) (by omega) (by omega)).mp c22
                                        have hN7 : j7 = pe := by omega
                                        rw [hN7] at hst7
                                        subst hst7
                                        have hW : WD g A s _ _ [(h0, .inr (12, vs)), (b6, .inl (g.2.1 1, 11, .inl rP)), (b7, .inl (g.2.1 1, 11, .inl rL)), (b12, .inl (g.2.1 1, 132, .inl rA)), (b13, .inl (g.2.1 1, 132, .inl rB)), (b14, .inl (g.2.1 1, 132, .inl rF)), (b15, .inl (g.2.1 1, 132, .inl rT)), (b16, .inl (g.2.1 1, 132, .inl rW)), (b17, .inl (g.2.1 3, 132, .inl rO)), (b49, .inl (g.2.1 1, 65536, .inl fb49_3)), (b50, .inl (g.2.1 1, 65536, .inl (L7_X12_layTrades rA rB rF rT rW rO lc pe i j3 fb49_3 j5 fb50_5 pe))), (b51, .inl (g.2.1 1, 9, .inl fb51_3))] := hW
                                        refine lv_iinc (v := nI (j5 + 1)) (lv' := [(6, .int (nI (j5 + 1))), (7, .int (nI j7)), (5, .int (nI (j3 + 1))), (4, .int ((L2_X12_layTrades pe (0 : Int32) (0 : Int32) pe).1)), (3, .int ((L2_X12_layTrades pe (0 : Int32) (0 : Int32) pe).2)), (2, .int (nI pe)), (0, .ref h0), (1, .int (nI i))]) (pc := 321) hx hb dX12_layTrades_321 hl (k := 1) rfl (nI_add j5 1) (by decide) rfl (fun ls hl => ?_)
                                        refine lv_goto (tgt := 129) (pc := 324) hx hb dX12_layTrades_324 rfl ?_
                                        exact ih5 (j5 + 1) (L7_X12_layTrades rA rB rF rT rW rO lc pe i j3 fb49_3 j5 fb50_5 pe) (by omega) (by omega) (by rw [L5_X12_layTrades, ← hst5]; exact (show L5_X12_layTradess rA rB rF rT rW rO lc pe i j3 fb49_3 j5 fb50_5 = (L7_X12_layTrades rA rB rF rT rW rO lc pe i j3 fb49_3 j5 fb50_5 pe) from by rw [L5_X12_layTradess, if_neg c20]).symm) _ _ _ hW (lv_sub hl [0, 2, 3, 4, 5, 6, 7] rfl)
                                      · have h24 : ¬ (pe ≤ j7) := fun q => c22 ((nI_leI (a := pe) (b := j7) (by omega) (by omega)).mpr q)
                                        refine lv_iload (pc := 163) hx hb dX12_layTrades_163 (lv_at hl 0 rfl) ?_
                                        refine lv_iconst (v := 1) (pc := 165) hx hb dX12_layTrades_165 (by decide) ?_
                                        refine lv_iadd (pc := 166) hx hb dX12_layTrades_166 ?_
                                        refine lv_topi (fun v25 ev25 => ?_)
                                        obtain rfl : v25 = nI (j7 + 1) := ev25.trans (nI_add j7 1)
                                        refine lv_istore (lv' := [(8, .int (nI (j7 + 1))), (7, .int (nI j7)), (6, .int (nI j5)), (5, .int (nI (j3 + 1))), (4, .int ((L2_X12_layTrades pe (0 : Int32) (0 : Int32) pe).1)), (3, .int ((L2_X12_layTrades pe (0 : Int32) (0 : Int32) pe).2)), (2, .int (nI pe)), (0, .ref h0), (1, .int (nI i))]) (pc := 167) hx hb dX12_layTrades_167 hl (by decide) rfl (fun ls hl => ?_)
                                        have loop8 : ∀ (fu8 : Nat) (j8 : Nat) (fb50_8 : Nat → Int32), ((pe - (j7 + 1)) < fu8 + j8) → (j8 ≤ (pe - (j7 + 1))) → (fb50_8 = L8_X12_layTrades rA rB rF rT rW rO lc pe i j3 fb49_3 j5 j7 fb50_7 j8) → ∀ (H : Heap) (locs : List Loc) (ls : Array Slot), WD g A s H locs [(h0, .inr (12, vs)), (b6, .inl (g.2.1 1, 11, .inl rP)), (b7, .inl (g.2.1 1, 11, .inl rL)), (b12, .inl (g.2.1 1, 132, .inl rA)), (b13, .inl (g.2.1 1, 132, .inl rB)), (b14, .inl (g.2.1 1, 132, .inl rF)), (b15, .inl (g.2.1 1, 132, .inl rT)), (b16, .inl (g.2.1 1, 132, .inl rW)), (b17, .inl (g.2.1 3, 132, .inl rO)), (b49, .inl (g.2.1 1, 65536, .inl fb49_3)), (b50, .inl (g.2.1 1, 65536, .inl fb50_8)), (b51, .inl (g.2.1 1, 9, .inl fb51_3))] → lv_has ls 12 [(8, .int (nI ((j7 + 1) + j8))), (7, .int (nI j7)), (6, .int (nI j5)), (5, .int (nI (j3 + 1))), (4, .int ((L2_X12_layTrades pe (0 : Int32) (0 : Int32) pe).1)), (3, .int ((L2_X12_layTrades pe (0 : Int32) (0 : Int32) pe).2)), (2, .int (nI pe)), (0, .ref h0), (1, .int (nI i))] → W p l e (RM 2 0 0) s m args below meth c H locs 0 0 Q (F0 m 169 ls []) := by
                                          intro fu8
                                          induction fu8 with
                                          | zero =>
                                            intro j8 fb50_8 hm8 hj8 hst8
                                            exact absurd hm8 (by omega)
                                          | succ fu8 ih8 =>
                                            intro j8 fb50_8 hm8 hj8 hst8 H locs ls hW hl
                                            refine lv_iload (pc := 169) hx hb dX12_layTrades_169 (lv_at hl 0 rfl) ?_
                                            refine lv_iload_n (pc := 171) hx hb dX12_layTrades_171 rfl (lv_at hl 6 rfl) ?_
                                            refine lv_icmp_ge (tgt := 315) (pc := 172) hx hb dX12_layTrades_172 rfl (fun c26 => ?_) (fun c26 => ?_)
                                            · have h27 : pe ≤ ((j7 + 1) + j8) := (nI_leI (a := pe) (b := ((j7 + 1) + j8)) (by omega) (by omega)).mp c26
                                              have hN8 : j8 = (pe - (j7 + 1)) := by omega
                                              rw [hN8] at hst8
                                              subst hst8
                                              have hW : WD g A s _ _ [(h0, .inr (12, vs)), (b6, .inl (g.2.1 1, 11, .inl rP)), (b7, .inl (g.2.1 1, 11, .inl rL)), (b12, .inl (g.2.1 1, 132, .inl rA)), (b13, .inl (g.2.1 1, 132, .inl rB)), (b14, .inl (g.2.1 1, 132, .inl rF)), (b15, .inl (g.2.1 1, 132, .inl rT)), (b16, .inl (g.2.1 1, 132, .inl rW)), (b17, .inl (g.2.1 3, 132, .inl rO)), (b49, .inl (g.2.1 1, 65536, .inl fb49_3)), (b50, .inl (g.2.1 1, 65536, .inl (L8_X12_layTrades rA rB rF rT rW rO lc pe i j3 fb49_3 j5 j7 fb50_7 (pe - (j7 + 1))))), (b51, .inl (g.2.1 1, 9, .inl fb51_3))] := hW
                                              refine lv_iinc (v := nI (j7 + 1)) (lv' := [(7, .int (nI (j7 + 1))), (8, .int (nI ((j7 + 1) + j8))), (6, .int (nI j5)), (5, .int (nI (j3 + 1))), (4, .int ((L2_X12_layTrades pe (0 : Int32) (0 : Int32) pe).1)), (3, .int ((L2_X12_layTrades pe (0 : Int32) (0 : Int32) pe).2)), (2, .int (nI pe)), (0, .ref h0), (1, .int (nI i))]) (pc := 315) hx hb dX12_layTrades_315 hl (k := 1) rfl (nI_add j7 1) (by decide) rfl (fun ls hl => ?_)
                                              refine lv_goto (tgt := 157) (pc := 318) hx hb dX12_layTrades_318 rfl ?_
                                              exact ih7 (j7 + 1) (L8_X12_layTrades rA rB rF rT rW rO lc pe i j3 fb49_3 j5 j7 fb50_7 (pe - (j7 + 1))) (by omega) (by omega) (by rw [L7_X12_layTrades, ← hst7]; exact (show L7_X12_layTradess rA rB rF rT rW rO lc pe i j3 fb49_3 j5 j7 fb50_7 = (L8_X12_layTrades rA rB rF rT rW rO lc pe i j3 fb49_3 j5 j7 fb50_7 (pe - (j7 + 1))) from rfl).symm) _ _ _ hW (lv_sub hl [0, 2, 3, 4, 5, 6, 7, 8] rfl)
                                            · have h28 : ¬ (pe ≤ ((j7 + 1) + j8)) := fun q => c26 ((nI_leI (a := pe) (b := ((j7 + 1) + j8)) (by omega) (by omega)).mpr q)
                                              refine lv_aload_n (pc := 175) hx hb dX12_layTrades_175 rfl (lv_at hl 7 rfl) ?_
                                              refine lv_iload_n (pc := 176) hx hb dX12_layTrades_176 rfl (lv_at hl 8 rfl) ?_
                                              refine lv_iload (pc := 177) hx hb dX12_layTrades_177 (lv_at hl 1 rfl) ?_
                                              refine lv_iload (pc := 179) hx hb dX12_layTrades_179 (lv_at hl 0 rfl) ?_
                                              refine lv_iload (pc := 181) hx hb dX12_layTrades_181 (lv_at hl 3 rfl) ?_
                                              refine c_Vi (pc := 183) (As := [.int (nI i), .int (nI j7), .int (nI ((j7 + 1) + j8)), .int (nI (j3 + 1))]) (rest := []) (wr := [(b6, .inl (g.2.1 1, 11, .inl rP)), (b49, .inl (g.2.1 1, 65536, .inl fb49_3)), (b50, .inl (g.2.1 1, 65536, .inl fb50_8)), (b51, .inl (g.2.1 1, 9, .inl fb51_3))]) X hW 0 ciX12 rfl (K_X12_mayTrade l g h0 vs b7 rL b12 rA b13 rB b14 rF b15 rT b16 rW b17 rO lc i j7 ((j7 + 1) + j8) (j3 + 1) hlen h7_ h12_ h13_ h14_ h15_ h16_ h17_ (by omega) hlc hL) vX12_355 [0, 2, 3, 4, 5, 6, 7, 8] [1, 9, 10, 11] rfl rfl rfl rfl rfl rfl hl.1 rfl (Nat.le_of_ble_eq_true rfl) ⟨Nat.le_of_ble_eq_true rfl, Nat.le_of_ble_eq_true rfl⟩ ⟨Nat.le_of_ble_eq_true rfl, Nat.le_of_ble_eq_true rfl⟩ dX12_layTrades_183 (fun r29 u9 H locs hq hW => ?_)
                                              obtain ⟨rfl, rfl⟩ := hq
                                              have hW : WD g A s _ _ [(b6, .inl (g.2.1 1, 11, .inl rP)), (b49, .inl (g.2.1 1, 65536, .inl fb49_3)), (b50, .inl (g.2.1 1, 65536, .inl fb50_8)), (b51, .inl (g.2.1 1, 9, .inl fb51_3)), (h0, .inr (12, vs)), (b7, .inl (g.2.1 1, 11, .inl rL)), (b12, .inl (g.2.1 1, 132, .inl rA)), (b13, .inl (g.2.1 1, 132, .inl rB)), (b14, .inl (g.2.1 1, 132, .inl rF)), (b15, .inl (g.2.1 1, 132, .inl rT)), (b16, .inl (g.2.1 1, 132, .inl rW)), (b17, .inl (g.2.1 3, 132, .inl rO))] := hW
                                              refine lv_if_ne (tgt := 192) (pc := 186) hx hb dX12_layTrades_186 rfl (fun c30 => ?_) (fun c30 => ?_)
                                              · refine lv_iload (pc := 192) hx hb dX12_layTrades_192 (lv_at hl 2 rfl) ?_
                                                refine lv_iload (pc := 194) hx hb dX12_layTrades_194 (lv_at hl 1 rfl) ?_
                                                refine lv_iload (pc := 196) hx hb dX12_layTrades_196 (lv_at hl 0 rfl) ?_
                                                refine c_Si (pc := 198) (As := [.int (nI j5), .int (nI j7), .int (nI ((j7 + 1) + j8))]) (rest := []) (wr := [(b6, .inl (g.2.1 1, 11, .inl rP)), (b49, .inl (g.2.1 1, 65536, .inl fb49_3)), (b50, .inl (g.2.1 1, 65536, .inl fb50_8)), (b51, .inl (g.2.1 1, 9, .inl fb51_3)), (h0, .inr (12, vs)), (b7, .inl (g.2.1 1, 11, .inl rL)), (b12, .inl (g.2.1 1, 132, .inl rA)), (b13, .inl (g.2.1 1, 132, .inl rB)), (b14, .inl (g.2.1 1, 132, .inl rF)), (b15, .inl (g.2.1 1, 132, .inl rT)), (b16, .inl (g.2.1 1, 132, .inl rW)), (b17, .inl (g.2.1 3, 132, .inl rO))]) X hW (K_X12_traded l g (nI j5) j7 ((j7 + 1) + j8) (by omega) (by omega)) vX12_358 [] [0, 1, 2, 3, 4, 5, 6, 7, 8, 9, 10, 11] rfl rfl rfl rfl rfl rfl hl.1 rfl (Nat.le_of_ble_eq_true rfl) ⟨Nat.le_of_ble_eq_true rfl, Nat.le_of_ble_eq_true rfl⟩ ⟨Nat.le_of_ble_eq_true rfl, Nat.le_of_ble_eq_true rfl⟩ dX12_layTrades_198 (fun r32 u9 H locs hq hW => ?_)
                                                obtain ⟨rfl, rfl⟩ := hq
                                                have hW : WD g A s _ _ [(b6, .inl (g.2.1 1, 11, .inl rP)), (b49, .inl (g.2.1 1, 65536, .inl fb49_3)), (b50, .inl (g.2.1 1, 65536, .inl fb50_8)), (b51, .inl (g.2.1 1, 9, .inl fb51_3)), (h0, .inr (12, vs)), (b7, .inl (g.2.1 1, 11, .inl rL)), (b12, .inl (g.2.1 1, 132, .inl rA)), (b13, .inl (g.2.1 1, 132, .inl rB)), (b14, .inl (g.2.1 1, 132, .inl rF)), (b15, .inl (g.2.1 1, 132, .inl rT)), (b16, .inl (g.2.1 1, 132, .inl rW)), (b17, .inl (g.2.1 3, 132, .inl rO))] := hW
                                                have htr := tr_nat (s := j5) (a := j7) (b := ((j7 + 1) + j8)) (by omega) (by omega) (by omega)
                                                have htr2 := htr.2
                                                rw [htr.1]
                                                refine lv_istore (lv' := [(9, .int (nI (tN (F_X12_traded (nI j5) j7 ((j7 + 1) + j8))))), (8, .int (nI ((j7 + 1) + j8))), (7, .int (nI j7)), (6, .int (nI j5)), (5, .int (nI (j3 + 1))), (4, .int ((L2_X12_layTrades pe (0 : Int32) (0 : Int32) pe).1)), (3, .int ((L2_X12_layTrades pe (0 : Int32) (0 : Int32) pe).2)), (2, .int (nI pe)), (0, .ref h0), (1, .int (nI i))]) (pc := 201) hx hb dX12_layTrades_201 hl (by decide) rfl (fun ls hl => ?_)
                                                refine lv_aload_n (pc := 203) hx hb dX12_layTrades_203 rfl (lv_at hl 8 rfl) ?_
                                                refine lv_iload (pc := 204) hx hb dX12_layTrades_204 (lv_at hl 0 rfl) ?_
                                                refine lv_aload_n (pc := 206) hx hb dX12_layTrades_206 rfl (lv_at hl 8 rfl) ?_
                                                refine r_get X hW 4 ciX12 49 rfl (by decide) m_1276 rfl h49_ dX12_layTrades_207 ?_
                                                refine lv_iload (pc := 210) hx hb dX12_layTrades_210 (lv_at hl 3 rfl) ?_
                                                refine r_iald X hW 1 rfl (vp_in_nI (by omega) (by decide)) dX12_layTrades_212 ?_
                                                refine lv_topi (fun v33 ev33 => ?_)
                                                obtain rfl : v33 = fb49_3 j5 := ev33.trans (by rw [nI_clamp (by omega)])
                                                refine lv_iconst (v := 1) (pc := 213) hx hb dX12_layTrades_213 (by decide) ?_
                                                refine lv_iadd (pc := 214) hx hb dX12_layTrades_214 ?_
                                                refine c_Vv (pc := 215) (As := [.int (nI (tN (F_X12_traded (nI j5) j7 ((j7 + 1) + j8)))), .int ((fb49_3 j5) + (1 : Int32))]) (rest := []) (wr := [(b6, .inl (g.2.1 1, 11, .inl rP)), (b49, .inl (g.2.1 1, 65536, .inl fb49_3)), (b51, .inl (g.2.1 1, 9, .inl fb51_3)), (b7, .inl (g.2.1 1, 11, .inl rL)), (b12, .inl (g.2.1 1, 132, .inl rA)), (b13, .inl (g.2.1 1, 132, .inl rB)), (b14, .inl (g.2.1 1, 132, .inl rF)), (b15, .inl (g.2.1 1, 132, .inl rT)), (b16, .inl (g.2.1 1, 132, .inl rW)), (b17, .inl (g.2.1 3, 132, .inl rO))]) X hW 4 ciX12 rfl (K_X12_meet l g h0 vs b50 fb50_8 (tN (F_X12_traded (nI j5) j7 ((j7 + 1) + j8))) ((fb49_3 j5) + (1 : Int32)) hlen h50_ htr2) vX12_361 [4, 2] [0, 1, 3, 5, 6, 7, 8, 9, 10, 11] rfl rfl rfl rfl rfl rfl hl.1 rfl (Nat.le_of_ble_eq_true rfl) ⟨Nat.le_of_ble_eq_true rfl, Nat.le_of_ble_eq_true rfl⟩ ⟨Nat.le_of_ble_eq_true rfl, Nat.le_of_ble_eq_true rfl⟩ dX12_layTrades_215 (fun u9 H locs hq hW => ?_)
                                                obtain rfl := hq
                                                have hW : WD g A s _ _ [(b6, .inl (g.2.1 1, 11, .inl rP)), (b49, .inl (g.2.1 1, 65536, .inl fb49_3)), (b51, .inl (g.2.1 1, 9, .inl fb51_3)), (b7, .inl (g.2.1 1, 11, .inl rL)), (b12, .inl (g.2.1 1, 132, .inl rA)), (b13, .inl (g.2.1 1, 132, .inl rB)), (b14, .inl (g.2.1 1, 132, .inl rF)), (b15, .inl (g.2.1 1, 132, .inl rT)), (b16, .inl (g.2.1 1, 132, .inl rW)), (b17, .inl (g.2.1 3, 132, .inl rO)), (h0, .inr (12, vs)), (b50, .inl (g.2.1 1, 65536, .inl (F_X12_meet fb50_8 (tN (F_X12_traded (nI j5) j7 ((j7 + 1) + j8))) ((fb49_3 j5) + (1 : Int32)))))] := hW
                                                refine lv_iconst (v := 0) (pc := 218) hx hb dX12_layTrades_218 (by decide) ?_
                                                refine lv_istore (lv' := [(10, .int 0), (9, .int (nI (tN (F_X12_traded (nI j5) j7 ((j7 + 1) + j8))))), (8, .int (nI ((j7 + 1) + j8))), (7, .int (nI j7)), (6, .int (nI j5)), (5, .int (nI (j3 + 1))), (4, .int ((L2_X12_layTrades pe (0 : Int32) (0 : Int32) pe).1)), (3, .int ((L2_X12_layTrades pe (0 : Int32) (0 : Int32) pe).2)), (2, .int (nI pe)), (0, .ref h0), (1, .int (nI i))]) (pc := 219) hx hb dX12_layTrades_219 hl (by decide) rfl (fun ls hl => ?_)
                                                refine cd_step (a := j7) (b := ((j7 + 1) + j8)) X (by omega) (by omega) (lv_sub hl [0, 1, 2, 3, 4, 5, 6, 7, 8, 9, 10] rfl) (fun ls hl => ?_)
                                                have hc4 := cNT_lt j7 ((j7 + 1) + j8)
                                                have hd4 := dNT_lt j7 ((j7 + 1) + j8)
                                                refine lv_iload (pc := 267) hx hb dX12_layTrades_267 (lv_at hl 0 rfl) ?_
                                                refine lv_iload_n (pc := 269) hx hb dX12_layTrades_269 rfl (lv_at hl 9 rfl) ?_
                                                refine lv_icmp_ge (tgt := 309) (pc := 270) hx hb dX12_layTrades_270 rfl (fun c34 => ?_) (fun c34 => ?_)
                                                · have h35 : pe ≤ (dNT j7 ((j7 + 1) + j8)) := (nI_leI (a := pe) (b := (dNT j7 ((j7 + 1) + j8))) (by omega) (by omega)).mp c34
                                                  refine lv_iinc (v := nI ((j7 + 1) + j8 + 1)) (lv' := [(8, .int (nI ((j7 + 1) + j8 + 1))), (11, .int (nI (dNT j7 ((j7 + 1) + j8)))), (10, .int (nI (cNT j7 ((j7 + 1) + j8)))), (9, .int (nI (tN (F_X12_traded (nI j5) j7 ((j7 + 1) + j8))))), (7, .int (nI j7)), (6, .int (nI j5)), (5, .int (nI (j3 + 1))), (4, .int ((L2_X12_layTrades pe (0 : Int32) (0 : Int32) pe).1)), (3, .int ((L2_X12_layTrades pe (0 : Int32) (0 : Int32) pe).2)), (2, .int (nI pe)), (0, .ref h0), (1, .int (nI i))]) (pc := 309) hx hb dX12_layTrades_309 hl (k := 3) rfl (nI_add ((j7 + 1) + j8) 1) (by decide) rfl (fun ls hl => ?_)
                                                  refine lv_goto (tgt := 169) (pc := 312) hx hb dX12_layTrades_312 rfl ?_
                                                  have hW : WD g A s _ _ [(h0, .inr (12, vs)), (b6, .inl (g.2.1 1, 11, .inl rP)), (b7, .inl (g.2.1 1, 11, .inl rL)), (b12, .inl (g.2.1 1, 132, .inl rA)), (b13, .inl (g.2.1 1, 132, .inl rB)), (b14, .inl (g.2.1 1, 132, .inl rF)), (b15, .inl (g.2.1 1, 132, .inl rT)), (b16, .inl (g.2.1 1, 132, .inl rW)), (b17, .inl (g.2.1 3, 132, .inl rO)), (b49, .inl (g.2.1 1, 65536, .inl fb49_3)), (b50, .inl (g.2.1 1, 65536, .inl (F_X12_meet fb50_8 (tN (F_X12_traded (nI j5) j7 ((j7 + 1) + j8))) ((fb49_3 j5) + (1 : Int32))))), (b51, .inl (g.2.1 1, 9, .inl fb51_3))] := hW.pick [10, 0, 3, 4, 5, 6, 7, 8, 9, 1, 11, 2] rfl rfl
                                                  exact ih8 (j8 + 1) (F_X12_meet fb50_8 (tN (F_X12_traded (nI j5) j7 ((j7 + 1) + j8))) ((fb49_3 j5) + (1 : Int32))) (by omega) (by omega) (by rw [L8_X12_layTrades, ← hst8]; exact (show L8_X12_layTradess rA rB rF rT rW rO lc pe i j3 fb49_3 j5 j7 j8 fb50_8 = (F_X12_meet fb50_8 (tN (F_X12_traded (nI j5) j7 ((j7 + 1) + j8))) ((fb49_3 j5) + (1 : Int32))) from by rw [L8_X12_layTradess, if_neg c30, if_pos c34]).symm) _ _ _ hW (lv_sub hl [0, 4, 5, 6, 7, 8, 9, 10, 11] rfl)
                                                · have h36 : ¬ (pe ≤ (dNT j7 ((j7 + 1) + j8))) := fun q => c34 ((nI_leI (a := pe) (b := (dNT j7 ((j7 + 1) + j8))) (by omega) (by omega)).mpr q)
                                                  refine lv_aload_n (pc := 273) hx hb dX12_layTrades_273 rfl (lv_at hl 10 rfl) ?_
                                                  refine lv_iload_n (pc := 274) hx hb dX12_layTrades_274 rfl (lv_at hl 11 rfl) ?_
                                                  refine lv_iload (pc := 275) hx hb dX12_layTrades_275 (lv_at hl 1 rfl) ?_
                                                  refine lv_iload (pc := 277) hx hb dX12_layTrades_277 (lv_at hl 0 rfl) ?_
                                                  refine lv_iload (pc := 279) hx hb dX12_layTrades_279 (lv_at hl 6 rfl) ?_
                                                  refine c_Vi (pc := 281) (As := [.int (nI i), .int (nI (cNT j7 ((j7 + 1) + j8))), .int (nI (dNT j7 ((j7 + 1) + j8))), .int (nI (j3 + 1))]) (rest := []) (wr := [(b6, .inl (g.2.1 1, 11, .inl rP)), (b49, .inl (g.2.1 1, 65536, .inl fb49_3)), (b51, .inl (g.2.1 1, 9, .inl fb51_3)), (b50, .inl (g.2.1 1, 65536, .inl (F_X12_meet fb50_8 (tN (F_X12_traded (nI j5) j7 ((j7 + 1) + j8))) ((fb49_3 j5) + (1 : Int32)))))]) X hW 10 ciX12 rfl (K_X12_mayTrade l g h0 vs b7 rL b12 rA b13 rB b14 rF b15 rT b16 rW b17 rO lc i (cNT j7 ((j7 + 1) + j8)) (dNT j7 ((j7 + 1) + j8)) (j3 + 1) hlen h7_ h12_ h13_ h14_ h15_ h16_ h17_ (by omega) hlc hL) vX12_355 [10, 3, 4, 5, 6, 7, 8, 9] [0, 1, 2, 11] rfl rfl rfl rfl rfl rfl hl.1 rfl (Nat.le_of_ble_eq_true rfl) ⟨Nat.le_of_ble_eq_true rfl, Nat.le_of_ble_eq_true rfl⟩ ⟨Nat.le_of_ble_eq_true rfl, Nat.le_of_ble_eq_true rfl⟩ dX12_layTrades_281 (fun r37 u9 H locs hq hW => ?_)
                                                  obtain ⟨rfl, rfl⟩ := hq
                                                  have hW : WD g A s _ _ [(b6, .inl (g.2.1 1, 11, .inl rP)), (b49, .inl (g.2.1 1, 65536, .inl fb49_3)), (b51, .inl (g.2.1 1, 9, .inl fb51_3)), (b50, .inl (g.2.1 1, 65536, .inl (F_X12_meet fb50_8 (tN (F_X12_traded (nI j5) j7 ((j7 + 1) + j8))) ((fb49_3 j5) + (1 : Int32))))), (h0, .inr (12, vs)), (b7, .inl (g.2.1 1, 11, .inl rL)), (b12, .inl (g.2.1 1, 132, .inl rA)), (b13, .inl (g.2.1 1, 132, .inl rB)), (b14, .inl (g.2.1 1, 132, .inl rF)), (b15, .inl (g.2.1 1, 132, .inl rT)), (b16, .inl (g.2.1 1, 132, .inl rW)), (b17, .inl (g.2.1 3, 132, .inl rO))] := hW
                                                  refine lv_if_eq (tgt := 309) (pc := 284) hx hb dX12_layTrades_284 rfl (fun c38 => ?_) (fun c38 => ?_)
                                                  · refine lv_iinc (v := nI ((j7 + 1) + j8 + 1)) (lv' := [(8, .int (nI ((j7 + 1) + j8 + 1))), (11, .int (nI (dNT j7 ((j7 + 1) + j8)))), (10, .int (nI (cNT j7 ((j7 + 1) + j8)))), (9, .int (nI (tN (F_X12_traded (nI j5) j7 ((j7 + 1) + j8))))), (7, .int (nI j7)), (6, .int (nI j5)), (5, .int (nI (j3 + 1))), (4, .int ((L2_X12_layTrades pe (0 : Int32) (0 : Int32) pe).1)), (3, .int ((L2_X12_layTrades pe (0 : Int32) (0 : Int32) pe).2)), (2, .int (nI pe)), (0, .ref h0), (1, .int (nI i))]) (pc := 309) hx hb dX12_layTrades_309 hl (k := 3) rfl (nI_add ((j7 + 1) + j8) 1) (by decide) rfl (fun ls hl => ?_)
                                                    refine lv_goto (tgt := 169) (pc := 312) hx hb dX12_layTrades_312 rfl ?_
                                                    have hW : WD g A s _ _ [(h0, .inr (12, vs)), (b6, .inl (g.2.1 1, 11, .inl rP)), (b7, .inl (g.2.1 1, 11, .inl rL)), (b12, .inl (g.2.1 1, 132, .inl rA)), (b13, .inl (g.2.1 1, 132, .inl rB)), (b14, .inl (g.2.1 1, 132, .inl rF)), (b15, .inl (g.2.1 1, 132, .inl rT)), (b16, .inl (g.2.1 1, 132, .inl rW)), (b17, .inl (g.2.1 3, 132, .inl rO)), (b49, .inl (g.2.1 1, 65536, .inl fb49_3)), (b50, .inl (g.2.1 1, 65536, .inl (F_X12_meet fb50_8 (tN (F_X12_traded (nI j5) j7 ((j7 + 1) + j8))) ((fb49_3 j5) + (1 : Int32))))), (b51, .inl (g.2.1 1, 9, .inl fb51_3))] := hW.pick [4, 0, 5, 6, 7, 8, 9, 10, 11, 1, 3, 2] rfl rfl
                                                    exact ih8 (j8 + 1) (F_X12_meet fb50_8 (tN (F_X12_traded (nI j5) j7 ((j7 + 1) + j8))) ((fb49_3 j5) + (1 : Int32))) (by omega) (by omega) (by rw [L8_X12_layTrades, ← hst8]; exact (show L8_X12_layTradess rA rB rF rT rW rO lc pe i j3 fb49_3 j5 j7 j8 fb50_8 = (F_X12_meet fb50_8 (tN (F_X12_traded (nI j5) j7 ((j7 + 1) + j8))) ((fb49_3 j5) + (1 : Int32))) from by rw [L8_X12_layTradess, if_neg c30, if_neg c34, if_pos c38]).symm) _ _ _ hW (lv_sub hl [0, 4, 5, 6, 7, 8, 9, 10, 11] rfl)
                                                  · refine lv_aload_n (pc := 287) hx hb dX12_layTrades_287 rfl (lv_at hl 10 rfl) ?_
                                                    refine lv_iload (pc := 288) hx hb dX12_layTrades_288 (lv_at hl 2 rfl) ?_
                                                    refine lv_iload (pc := 290) hx hb dX12_layTrades_290 (lv_at hl 1 rfl) ?_
                                                    refine lv_iload (pc := 292) hx hb dX12_layTrades_292 (lv_at hl 0 rfl) ?_
                                                    refine c_Si (pc := 294) (As := [.int (nI (tN (F_X12_traded (nI j5) j7 ((j7 + 1) + j8)))), .int (nI (cNT j7 ((j7 + 1) + j8))), .int (nI (dNT j7 ((j7 + 1) + j8)))]) (rest := [.ref h0]) (wr := [(b6, .inl (g.2.1 1, 11, .inl rP)), (b49, .inl (g.2.1 1, 65536, .inl fb49_3)), (b51, .inl (g.2.1 1, 9, .inl fb51_3)), (b50, .inl (g.2.1 1, 65536, .inl (F_X12_meet fb50_8 (tN (F_X12_traded (nI j5) j7 ((j7 + 1) + j8))) ((fb49_3 j5) + (1 : Int32))))), (h0, .inr (12, vs)), (b7, .inl (g.2.1 1, 11, .inl rL)), (b12, .inl (g.2.1 1, 132, .inl rA)), (b13, .inl (g.2.1 1, 132, .inl rB)), (b14, .inl (g.2.1 1, 132, .inl rF)), (b15, .inl (g.2.1 1, 132, .inl rT)), (b16, .inl (g.2.1 1, 132, .inl rW)), (b17, .inl (g.2.1 3, 132, .inl rO))]) X hW (K_X12_traded l g (nI (tN (F_X12_traded (nI j5) j7 ((j7 + 1) + j8)))) (cNT j7 ((j7 + 1) + j8)) (dNT j7 ((j7 + 1) + j8)) (by omega) (by omega)) vX12_358 [] [0, 1, 2, 3, 4, 5, 6, 7, 8, 9, 10, 11] rfl rfl rfl rfl rfl rfl hl.1 rfl (Nat.le_of_ble_eq_true rfl) ⟨Nat.le_of_ble_eq_true rfl, Nat.le_of_ble_eq_true rfl⟩ ⟨Nat.le_of_ble_eq_true rfl, Nat.le_of_ble_eq_true rfl⟩ dX12_layTrades_294 (fun r41 u9 H locs hq hW => ?_)
                                                    obtain ⟨rfl, rfl⟩ := hq
                                                    have hW : WD g A s _ _ [(b6, .inl (g.2.1 1, 11, .inl rP)), (b49, .inl (g.2.1 1, 65536, .inl fb49_3)), (b51, .inl (g.2.1 1, 9, .inl fb51_3)), (b50, .inl (g.2.1 1, 65536, .inl (F_X12_meet fb50_8 (tN (F_X12_traded (nI j5) j7 ((j7 + 1) + j8))) ((fb49_3 j5) + (1 : Int32))))), (h0, .inr (12, vs)), (b7, .inl (g.2.1 1, 11, .inl rL)), (b12, .inl (g.2.1 1, 132, .inl rA)), (b13, .inl (g.2.1 1, 132, .inl rB)), (b14, .inl (g.2.1 1, 132, .inl rF)), (b15, .inl (g.2.1 1, 132, .inl rT)), (b16, .inl (g.2.1 1, 132, .inl rW)), (b17, .inl (g.2.1 3, 132, .inl rO))] := hW
                                                    have hts := tr_nat (s := tN (F_X12_traded (nI j5) j7 ((j7 + 1) + j8))) (a := cNT j7 ((j7 + 1) + j8)) (b := dNT j7 ((j7 + 1) + j8)) (by omega) (by omega) (by omega)
                                                    have hts2 := hts.2
                                                    rw [hts.1]
                                                    refine lv_aload_n (pc := 297) hx hb dX12_layTrades_297 rfl (lv_at hl 10 rfl) ?_
                                                    refine r_get X hW 4 ciX12 49 rfl (by decide) m_1276 rfl h49_ dX12_layTrades_298 ?_
                                                    refine lv_iload (pc := 301) hx hb dX12_layTrades_301 (lv_at hl 5 rfl) ?_
                                                    refine r_iald X hW 1 rfl (vp_in_nI (by omega) (by decide)) dX12_layTrades_303 ?_
                                                    refine lv_topi (fun v42 ev42 => ?_)
                                                    obtain rfl : v42 = fb49_3 j5 := ev42.trans (by rw [nI_clamp (by omega)])
                                                    refine lv_iconst (v := 2) (pc := 304) hx hb dX12_layTrades_304 (by decide) ?_
                                                    refine lv_iadd (pc := 305) hx hb dX12_layTrades_305 ?_
                                                    refine c_Vv (pc := 306) (As := [.int (nI (tN (F_X12_traded (nI (tN (F_X12_traded (nI j5) j7 ((j7 + 1) + j8)))) (cNT j7 ((j7 + 1) + j8)) (dNT j7 ((j7 + 1) + j8))))), .int ((fb49_3 j5) + (2 : Int32))]) (rest := []) (wr := [(b6, .inl (g.2.1 1, 11, .inl rP)), (b49, .inl (g.2.1 1, 65536, .inl fb49_3)), (b51, .inl (g.2.1 1, 9, .inl fb51_3)), (b7, .inl (g.2.1 1, 11, .inl rL)), (b12, .inl (g.2.1 1, 132, .inl rA)), (b13, .inl (g.2.1 1, 132, .inl rB)), (b14, .inl (g.2.1 1, 132, .inl rF)), (b15, .inl (g.2.1 1, 132, .inl rT)), (b16, .inl (g.2.1 1, 132, .inl rW)), (b17, .inl (g.2.1 3, 132, .inl rO))]) X hW 4 ciX12 rfl (K_X12_meet l g h0 vs b50 (F_X12_meet fb50_8 (tN (F_X12_traded (nI j5) j7 ((j7 + 1) + j8))) ((fb49_3 j5) + (1 : Int32))) (tN (F_X12_traded (nI (tN (F_X12_traded (nI j5) j7 ((j7 + 1) + j8)))) (cNT j7 ((j7 + 1) + j8)) (dNT j7 ((j7 + 1) + j8)))) ((fb49_3 j5) + (2 : Int32)) hlen h50_ hts2) vX12_361 [4, 3] [0, 1, 2, 5, 6, 7, 8, 9, 10, 11] rfl rfl rfl rfl rfl rfl hl.1 rfl (Nat.le_of_ble_eq_true rfl) ⟨Nat.le_of_ble_eq_true rfl, Nat.le_of_ble_eq_true rfl⟩ ⟨Nat.le_of_ble_eq_true rfl, Nat.le_of_ble_eq_true rfl⟩ dX12_layTrades_306 (fun u9 H locs hq hW => ?_)
                                                    obtain rfl := hq
                                                    have hW : WD g A s _ _ [(b6, .inl (g.2.1 1, 11, .inl rP)), (b49, .inl (g.2.1 1, 65536, .inl fb49_3)), (b51, .inl (g.2.1 1, 9, .inl fb51_3)), (b7, .inl (g.2.1 1, 11, .inl rL)), (b12, .inl (g.2.1 1, 132, .inl rA)), (b13, .inl (g.2.1 1, 132, .inl rB)), (b14, .inl (g.2.1 1, 132, .inl rF)), (b15, .inl (g.2.1 1, 132, .inl rT)), (b16, .inl (g.2.1 1, 132, .inl rW)), (b17, .inl (g.2.1 3, 132, .inl rO)), (h0, .inr (12, vs)), (b50, .inl (g.2.1 1, 65536, .inl (F_X12_meet (F_X12_meet fb50_8 (tN (F_X12_traded (nI j5) j7 ((j7 + 1) + j8))) ((fb49_3 j5) + (1 : Int32))) (tN (F_X12_traded (nI (tN (F_X12_traded (nI j5) j7 ((j7 + 1) + j8)))) (cNT j7 ((j7 + 1) + j8)) (dNT j7 ((j7 + 1) + j8)))) ((fb49_3 j5) + (2 : Int32)))))] := hW
                                                    refine lv_iinc (v := nI ((j7 + 1) + j8 + 1)) (lv' := [(8, .int (nI ((j7 + 1) + j8 + 1))), (11, .int (nI (dNT j7 ((j7 + 1) + j8)))), (10, .int (nI (cNT j7 ((j7 + 1) + j8)))), (9, .int (nI (tN (F_X12_traded (nI j5) j7 ((j7 + 1) + j8))))), (7, .int (nI j7)), (6, .int (nI j5)), (5, .int (nI (j3 + 1))), (4, .int ((L2_X12_layTrades pe (0 : Int32) (0 : Int32) pe).1)), (3, .int ((L2_X12_layTrades pe (0 : Int32) (0 : Int32) pe).2)), (2, .int (nI pe)), (0, .ref h0), (1, .int (nI i))]) (pc := 309) hx hb dX12_layTrades_309 hl (k := 3) rfl (nI_add ((j7 + 1) + j8) 1) (by decide) rfl (fun ls hl => ?_)
                                                    refine lv_goto (tgt := 169) (pc := 312) hx hb dX12_layTrades_312 rfl ?_
                                                    have hW : WD g A s _ _ [(h0, .inr (12, vs)), (b6, .inl (g.2.1 1, 11, .inl rP)), (b7, .inl (g.2.1 1, 11, .inl rL)), (b12, .inl (g.2.1 1, 132, .inl rA)), (b13, .inl (g.2.1 1, 132, .inl rB)), (b14, .inl (g.2.1 1, 132, .inl rF)), (b15, .inl (g.2.1 1, 132, .inl rT)), (b16, .inl (g.2.1 1, 132, .inl rW)), (b17, .inl (g.2.1 3, 132, .inl rO)), (b49, .inl (g.2.1 1, 65536, .inl fb49_3)), (b50, .inl (g.2.1 1, 65536, .inl (F_X12_meet (F_X12_meet fb50_8 (tN (F_X12_traded (nI j5) j7 ((j7 + 1) + j8))) ((fb49_3 j5) + (1 : Int32))) (tN (F_X12_traded (nI (tN (F_X12_traded (nI j5) j7 ((j7 + 1) + j8)))) (cNT j7 ((j7 + 1) + j8)) (dNT j7 ((j7 + 1) + j8)))) ((fb49_3 j5) + (2 : Int32))))), (b51, .inl (g.2.1 1, 9, .inl fb51_3))] := hW.pick [10, 0, 3, 4, 5, 6, 7, 8, 9, 1, 11, 2] rfl rfl
                                                    exact ih8 (j8 + 1) (F_X12_meet (F_X12_meet fb50_8 (tN (F_X12_traded (nI j5) j7 ((j7 + 1) + j8))) ((fb49_3 j5) + (1 : Int32))) (tN (F_X12_traded (nI (tN (F_X12_traded (nI j5) j7 ((j7 + 1) + j8)))) (cNT j7 ((j7 + 1) + j8)) (dNT j7 ((j7 + 1) + j8)))) ((fb49_3 j5) + (2 : Int32))) (by omega) (by omega) (by rw [L8_X12_layTrades, ← hst8]; exact (show L8_X12_layTradess rA rB rF rT rW rO lc pe i j3 fb49_3 j5 j7 j8 fb50_8 = (F_X12_meet (F_X12_meet fb50_8 (tN (F_X12_traded (nI j5) j7 ((j7 + 1) + j8))) ((fb49_3 j5) + (1 : Int32))) (tN (F_X12_traded (nI (tN (F_X12_traded (nI j5) j7 ((j7 + 1) + j8)))) (cNT j7 ((j7 + 1) + j8)) (dNT j7 ((j7 + 1) + j8)))) ((fb49_3 j5) + (2 : Int32))) from by rw [L8_X12_layTradess, if_neg c30, if_neg c34, if_neg c38]).symm) _ _ _ hW (lv_sub hl [0, 4, 5, 6, 7, 8, 9, 10, 11] rfl)
                                              · refine lv_goto (tgt := 309) (pc := 189) hx hb dX12_layTrades_189 rfl ?_
                                                refine lv_iinc (v := nI ((j7 + 1) + j8 + 1)) (lv' := [(8, .int (nI ((j7 + 1) + j8 + 1))), (7, .int (nI j7)), (6, .int (nI j5)), (5, .int (nI (j3 + 1))), (4, .int ((L2_X12_layTrades pe (0 : Int32) (0 : Int32) pe).1)), (3, .int ((L2_X12_layTrades pe (0 : Int32) (0 : Int32) pe).2)), (2, .int (nI pe)), (0, .ref h0), (1, .int (nI i))]) (pc := 309) hx hb dX12_layTrades_309 hl (k := 0) rfl (nI_add ((j7 + 1) + j8) 1) (by decide) rfl (fun ls hl => ?_)
                                                refine lv_goto (tgt := 169) (pc := 312) hx hb dX12_layTrades_312 rfl ?_
                                                have hW : WD g A s _ _ [(h0, .inr (12, vs)), (b6, .inl (g.2.1 1, 11, .inl rP)), (b7, .inl (g.2.1 1, 11, .inl rL)), (b12, .inl (g.2.1 1, 132, .inl rA)), (b13, .inl (g.2.1 1, 132, .inl rB)), (b14, .inl (g.2.1 1, 132, .inl rF)), (b15, .inl (g.2.1 1, 132, .inl rT)), (b16, .inl (g.2.1 1, 132, .inl rW)), (b17, .inl (g.2.1 3, 132, .inl rO)), (b49, .inl (g.2.1 1, 65536, .inl fb49_3)), (b50, .inl (g.2.1 1, 65536, .inl fb50_8)), (b51, .inl (g.2.1 1, 9, .inl fb51_3))] := hW.pick [4, 0, 5, 6, 7, 8, 9, 10, 11, 1, 2, 3] rfl rfl
                                                exact ih8 (j8 + 1) fb50_8 (by omega) (by omega) (by rw [L8_X12_layTrades, ← hst8]; exact (show L8_X12_layTradess rA rB rF rT rW rO lc pe i j3 fb49_3 j5 j7 j8 fb50_8 = fb50_8 from by rw [L8_X12_layTradess, if_pos c30]).symm) _ _ _ hW (lv_sub hl [0, 1, 2, 3, 4, 5, 6, 7, 8] rfl)
                                        exact loop8 ((pe - (j7 + 1)) + 1) 0 fb50_7 (by omega) (by omega) rfl _ _ _ hW (lv_sub hl [0, 1, 2, 3, 4, 5, 6, 7, 8] rfl)
                                  exact loop7 (pe + 1) 0 fb50_5 (by omega) (by omega) rfl _ _ _ hW (lv_sub hl [0, 1, 2, 3, 4, 5, 6, 7] rfl)
                                · refine lv_goto (tgt := 321) (pc := 151) hx hb dX12_layTrades_151 rfl ?_
                                  refine lv_iinc (v := nI (j5 + 1)) (lv' := [(6, .int (nI (j5 + 1))), (5, .int (nI (j3 + 1))), (4, .int ((L2_X12_layTrades pe (0 : Int32) (0 : Int32) pe).1)), (3, .int ((L2_X12_layTrades pe (0 : Int32) (0 : Int32) pe).2)), (2, .int (nI pe)), (0, .ref h0), (1, .int (nI i))]) (pc := 321) hx hb dX12_layTrades_321 hl (k := 0) rfl (nI_add j5 1) (by decide) rfl (fun ls hl => ?_)
                                  refine lv_goto (tgt := 129) (pc := 324) hx hb dX12_layTrades_324 rfl ?_
                                  exact ih5 (j5 + 1) fb50_5 (by omega) (by omega) (by rw [L5_X12_layTrades, ← hst5]; exact (show L5_X12_layTradess rA rB rF rT rW rO lc pe i j3 fb49_3 j5 fb50_5 = fb50_5 from by rw [L5_X12_layTradess, if_pos c20]).symm) _ _ _ hW (lv_sub hl [0, 1, 2, 3, 4, 5, 6] rfl)
                          exact loop5 (65536 + 1) 0 (L4_X12_layTrades fb49_3 fb50_3 65536) (by omega) (by omega) rfl _ _ _ hW (lv_sub hl [0, 1, 2, 3, 4, 5, 6] rfl)
                        · have h45 : ¬ (65536 ≤ j4) := fun q => c9 ((nI_leI (a := 65536) (b := j4) (by omega) (by omega)).mpr q)
                          refine lv_aload_n (pc := 106) hx hb dX12_layTrades_106 rfl (lv_at hl 5 rfl) ?_
                          refine r_get X hW 0 ciX12 50 rfl (by decide) m_1277 rfl h50_ dX12_layTrades_107 ?_
                          refine lv_iload (pc := 110) hx hb dX12_layTrades_110 (lv_at hl 0 rfl) ?_
                          refine lv_aload_n (pc := 112) hx hb dX12_layTrades_112 rfl (lv_at hl 5 rfl) ?_
                          refine r_get X hW 0 ciX12 49 rfl (by decide) m_1276 rfl h49_ dX12_layTrades_113 ?_
                          refine lv_iload (pc := 116) hx hb dX12_layTrades_116 (lv_at hl 0 rfl) ?_
                          refine r_iald X hW 9 rfl (vp_in_nI (by omega) (by decide)) dX12_layTrades_118 ?_
                          refine lv_topi (fun v46 ev46 => ?_)
                          obtain rfl : v46 = fb49_3 j4 := ev46.trans (by rw [nI_clamp (by omega)])
                          refine r_iast (ws' := [(h0, .inr (12, vs)), (b6, .inl (g.2.1 1, 11, .inl rP)), (b7, .inl (g.2.1 1, 11, .inl rL)), (b12, .inl (g.2.1 1, 132, .inl rA)), (b13, .inl (g.2.1 1, 132, .inl rB)), (b14, .inl (g.2.1 1, 132, .inl rF)), (b15, .inl (g.2.1 1, 132, .inl rT)), (b16, .inl (g.2.1 1, 132, .inl rW)), (b17, .inl (g.2.1 3, 132, .inl rO)), (b49, .inl (g.2.1 1, 65536, .inl fb49_3)), (b50, .inl (g.2.1 1, 65536, .inl (upd fb50_4 j4 (fb49_3 j4)))), (b51, .inl (g.2.1 1, 9, .inl fb51_3))]) X hW 10 rfl (vp_in_nI (by omega) (by decide)) (f' := (upd fb50_4 j4 (fb49_3 j4))) (by rw [nI_clamp (by omega)]) rfl dX12_layTrades_119 (fun H locs hW => ?_)
                          refine lv_iinc (v := nI (j4 + 1)) (lv' := [(6, .int (nI (j4 + 1))), (5, .int (nI (j3 + 1))), (4, .int ((L2_X12_layTrades pe (0 : Int32) (0 : Int32) pe).1)), (3, .int ((L2_X12_layTrades pe (0 : Int32) (0 : Int32) pe).2)), (2, .int (nI pe)), (0, .ref h0), (1, .int (nI i))]) (pc := 120) hx hb dX12_layTrades_120 hl (k := 0) rfl (nI_add j4 1) (by decide) rfl (fun ls hl => ?_)
                          refine lv_goto (tgt := 96) (pc := 123) hx hb dX12_layTrades_123 rfl ?_
                          exact ih4 (j4 + 1) (upd fb50_4 j4 (fb49_3 j4)) (by omega) (by omega) (by rw [L4_X12_layTrades, ← hst4]; exact (show L4_X12_layTradess fb49_3 j4 fb50_4 = (upd fb50_4 j4 (fb49_3 j4)) from rfl).symm) _ _ _ hW (lv_sub hl [0, 1, 2, 3, 4, 5, 6] rfl)
                    exact loop4 (65536 + 1) 0 fb50_3 (by omega) (by omega) rfl _ _ _ hW (lv_sub hl [0, 1, 2, 3, 4, 5, 6] rfl)
              exact loop3 (8 + 1) 0 (upd (L1_X12_layTrades cC 65536) (tN ((L2_X12_layTrades pe (0 : Int32) (0 : Int32) pe).2)) (0 : Int32)) cX tC (by omega) (by omega) rfl _ _ _ hW (lv_sub hl [0, 1, 2, 3, 4, 5] rfl)
            · have h47 : ¬ (pe ≤ j2) := fun q => c4 ((nI_leI (a := pe) (b := j2) (by omega) (by omega)).mpr q)
              refine lv_iload_n (pc := 46) hx hb dX12_layTrades_46 rfl (lv_at hl 2 rfl) ?_
              refine lv_iconst (v := 1) (pc := 47) hx hb dX12_layTrades_47 (by decide) ?_
              refine lv_iconst (v := 5) (pc := 48) hx hb dX12_layTrades_48 (by decide) ?_
              refine lv_iload (pc := 49) hx hb dX12_layTrades_49 (lv_at hl 0 rfl) ?_
              refine lv_imul (pc := 51) hx hb dX12_layTrades_51 ?_
              refine lv_topi (fun v48 ev48 => ?_)
              obtain rfl : v48 = nI (5 * j2) := ev48.trans (pk_mul 5 j2)
              refine lv_ishl (pc := 52) hx hb dX12_layTrades_52 ?_
              refine lv_ior (pc := 53) hx hb dX12_layTrades_53 ?_
              refine lv_istore_n (lv' := [(3, .int (x3_2 ||| ((1 : Int32) <<< ((nI (5 * j2)) &&& 31)))), (5, .int (nI j2)), (4, .int x4_2), (2, .int (nI pe)), (0, .ref h0), (1, .int (nI i))]) (pc := 54) hx hb dX12_layTrades_54 rfl hl (by decide) rfl (fun ls hl => ?_)
              refine lv_iload (pc := 55) hx hb dX12_layTrades_55 (lv_at hl 2 rfl) ?_
              refine lv_iconst (v := 1) (pc := 57) hx hb dX12_layTrades_57 (by decide) ?_
              refine lv_iload_n (pc := 58) hx hb dX12_layTrades_58 rfl (lv_at hl 3 rfl) ?_
              refine lv_ishl (pc := 59) hx hb dX12_layTrades_59 ?_
              refine lv_iconst (v := 1) (pc := 60) hx hb dX12_layTrades_60 (by decide) ?_
              refine lv_isub (pc := 61) hx hb dX12_layTrades_61 ?_
              refine lv_iconst (v := 4) (pc := 62) hx hb dX12_layTrades_62 (by decide) ?_
              refine lv_iload (pc := 63) hx hb dX12_layTrades_63 (lv_at hl 1 rfl) ?_
              refine lv_imul (pc := 65) hx hb dX12_layTrades_65 ?_
              refine lv_topi (fun v49 ev49 => ?_)
              obtain rfl : v49 = nI (4 * j2) := ev49.trans (pk_mul 4 j2)
              refine lv_ishl (pc := 66) hx hb dX12_layTrades_66 ?_
              refine lv_ior (pc := 67) hx hb dX12_layTrades_67 ?_
              refine lv_istore (lv' := [(4, .int (x4_2 ||| ((((1 : Int32) <<< ((nI pe) &&& 31)) - (1 : Int32)) <<< ((nI (4 * j2)) &&& 31)))), (3, .int (x3_2 ||| ((1 : Int32) <<< ((nI (5 * j2)) &&& 31)))), (5, .int (nI j2)), (2, .int (nI pe)), (0, .ref h0), (1, .int (nI i))]) (pc := 68) hx hb dX12_layTrades_68 hl (by decide) rfl (fun ls hl => ?_)
              refine lv_iinc (v := nI (j2 + 1)) (lv' := [(5, .int (nI (j2 + 1))), (4, .int (x4_2 ||| ((((1 : Int32) <<< ((nI pe) &&& 31)) - (1 : Int32)) <<< ((nI (4 * j2)) &&& 31)))), (3, .int (x3_2 ||| ((1 : Int32) <<< ((nI (5 * j2)) &&& 31)))), (2, .int (nI pe)), (0, .ref h0), (1, .int (nI i))]) (pc := 70) hx hb dX12_layTrades_70 hl (k := 2) rfl (nI_add j2 1) (by decide) rfl (fun ls hl => ?_)
              refine lv_goto (tgt := 40) (pc := 73) hx hb dX12_layTrades_73 rfl ?_
              exact ih2 (j2 + 1) (x4_2 ||| ((((1 : Int32) <<< ((nI pe) &&& 31)) - (1 : Int32)) <<< ((nI (4 * j2)) &&& 31))) (x3_2 ||| ((1 : Int32) <<< ((nI (5 * j2)) &&& 31))) (by omega) (by omega) (sB_or hb2 fun i a b => bg_ok _ (by omega) i b a) (sB_or he2 fun i a b => en_ok _ (by omega) _ (by omega) i b a) (by rw [L2_X12_layTrades, ← hst2]; exact (show L2_X12_layTradess pe j2 x4_2 x3_2 = (x4_2 ||| ((((1 : Int32) <<< ((nI pe) &&& 31)) - (1 : Int32)) <<< ((nI (4 * j2)) &&& 31)), x3_2 ||| ((1 : Int32) <<< ((nI (5 * j2)) &&& 31))) from rfl).symm) _ _ _ hW (lv_sub hl [0, 1, 2, 3, 4, 5] rfl)
        exact loop2 (pe + 1) 0 (0 : Int32) (0 : Int32) (by omega) (by omega) sB_0 sB_0 rfl _ _ _ hW (lv_sub hl [0, 1, 2, 3, 4, 5] rfl)
      · have h50 : ¬ (65536 ≤ j1) := fun q => c2 ((nI_leI (a := 65536) (b := j1) (by omega) (by omega)).mpr q)
        refine lv_aload_n (pc := 18) hx hb dX12_layTrades_18 rfl (lv_at hl 2 rfl) ?_
        refine r_get X hW 0 ciX12 49 rfl (by decide) m_1276 rfl h49_ dX12_layTrades_19 ?_
        refine lv_iload_n (pc := 22) hx hb dX12_layTrades_22 rfl (lv_at hl 0 rfl) ?_
        refine lv_bipush (v := 99) (pc := 23) hx hb dX12_layTrades_23 (by decide) ?_
        refine r_iast (ws' := [(h0, .inr (12, vs)), (b6, .inl (g.2.1 1, 11, .inl rP)), (b7, .inl (g.2.1 1, 11, .inl rL)), (b12, .inl (g.2.1 1, 132, .inl rA)), (b13, .inl (g.2.1 1, 132, .inl rB)), (b14, .inl (g.2.1 1, 132, .inl rF)), (b15, .inl (g.2.1 1, 132, .inl rT)), (b16, .inl (g.2.1 1, 132, .inl rW)), (b17, .inl (g.2.1 3, 132, .inl rO)), (b49, .inl (g.2.1 1, 65536, .inl (upd fb49_1 j1 (99 : Int32)))), (b50, .inl (g.2.1 1, 65536, .inl cX)), (b51, .inl (g.2.1 1, 9, .inl tC))]) X hW 9 rfl (vp_in_nI (by omega) (by decide)) (f' := (upd fb49_1 j1 (99 : Int32))) (by rw [nI_clamp (by omega)]) rfl dX12_layTrades_25 (fun H locs hW => ?_)
        refine lv_iinc (v := nI (j1 + 1)) (lv' := [(3, .int (nI (j1 + 1))), (2, .int (nI pe)), (0, .ref h0), (1, .int (nI i))]) (pc := 26) hx hb dX12_layTrades_26 hl (k := 0) rfl (nI_add j1 1) (by decide) rfl (fun ls hl => ?_)
        refine lv_goto (tgt := 9) (pc := 29) hx hb dX12_layTrades_29 rfl ?_
        exact ih1 (j1 + 1) (upd fb49_1 j1 (99 : Int32)) (by omega) (by omega) (by rw [L1_X12_layTrades, ← hst1]; exact (show L1_X12_layTradess  j1 fb49_1 = (upd fb49_1 j1 (99 : Int32)) from rfl).symm) _ _ _ hW (lv_sub hl [0, 1, 2, 3] rfl)
  exact loop1 (65536 + 1) 0 cC (by omega) (by omega) rfl _ _ _ hW (lv_sub hl [0, 1, 2, 3] rfl)
theorem in_18 : ∀ n : Nat, n < 9 → 1 ≤ n → ¬ F_X12_isIn (nI n) 1 8 = 0 := by decide +kernel
theorem in_01 : ∀ k : Nat, k < 2 → ¬ F_X12_isIn (nI k) 0 1 = 0 := by decide +kernel
def L1_X12_trade1s (rA : Nat → Int32) (rB : Nat → Int32) (rF : Nat → Int32) (rT : Nat → Int32) (rW : Nat → Int32) (rO : Nat → Int32) (cC : Nat → Int32) (cX : Nat → Int32) (tC : Nat → Int32) (lc : Nat) (pe : Nat) (i : Nat) (n : Nat) (j1 : Nat) (x4_1 : Int32) : Int32 := if x4_1 = 0 then ((0 : Int32)) else (if ((F_X12_layTrades rA rB rF rT rW rO cC cX tC lc pe i).2.2) (1 + j1) ≤ ((F_X12_layTrades rA rB rF rT rW rO cC cX tC lc pe i).2.2) n then ((0 : Int32)) else ((1 : Int32)))
def L1_X12_trade1 (rA : Nat → Int32) (rB : Nat → Int32) (rF : Nat → Int32) (rT : Nat → Int32) (rW : Nat → Int32) (rO : Nat → Int32) (cC : Nat → Int32) (cX : Nat → Int32) (tC : Nat → Int32) (lc : Nat) (pe : Nat) (i : Nat) (n : Nat) (i0_ : Int32) : Nat → Int32
  | 0 => (i0_)
  | k_ + 1 => L1_X12_trade1s rA rB rF rT rW rO cC cX tC lc pe i n k_ (L1_X12_trade1 rA rB rF rT rW rO cC cX tC lc pe i n i0_ k_)
def F_X12_trade1 (rA : Nat → Int32) (rB : Nat → Int32) (rF : Nat → Int32) (rT : Nat → Int32) (rW : Nat → Int32) (rO : Nat → Int32) (cC : Nat → Int32) (cX : Nat → Int32) (tC : Nat → Int32) (lc : Nat) (pe : Nat) (i : Nat) (n : Nat) (k : Nat) : Int32 × (Nat → Int32) × (Nat → Int32) × (Nat → Int32) := if ((F_X12_layTrades rA rB rF rT rW rO cC cX tC lc pe i).2.2) n = 99 then (((-1 : Int32), ((F_X12_layTrades rA rB rF rT rW rO cC cX tC lc pe i).1), ((F_X12_layTrades rA rB rF rT rW rO cC cX tC lc pe i).2.1), ((F_X12_layTrades rA rB rF rT rW rO cC cX tC lc pe i).2.2))) else (if nI k = 0 then ((((F_X12_layTrades rA rB rF rT rW rO cC cX tC lc pe i).2.2) n, ((F_X12_layTrades rA rB rF rT rW rO cC cX tC lc pe i).1), ((F_X12_layTrades rA rB rF rT rW rO cC cX tC lc pe i).2.1), ((F_X12_layTrades rA rB rF rT rW rO cC cX tC lc pe i).2.2))) else (if (L1_X12_trade1 rA rB rF rT rW rO cC cX tC lc pe i n (1 : Int32) (n - 1)) = 0 then (((0 : Int32), ((F_X12_layTrades rA rB rF rT rW rO cC cX tC lc pe i).1), ((F_X12_layTrades rA rB rF rT rW rO cC cX tC lc pe i).2.1), ((F_X12_layTrades rA rB rF rT rW rO cC cX tC lc pe i).2.2))) else (((1 : Int32), ((F_X12_layTrades rA rB rF rT rW rO cC cX tC lc pe i).1), ((F_X12_layTrades rA rB rF rT rW rO cC cX tC lc pe i).2.1), ((F_X12_layTrades rA rB rF rT rW rO cC cX tC lc pe i).2.2)))))
set_option maxHeartbeats 4000000 in
set_option maxRecDepth 100000 in
theorem K_X12_trade1 (l : Launch) (g : GG) (h0 : Nat) (vs : List Value) (nv : Nat) (b6 : Nat) (rP : Nat → Int32) (b7 : Nat) (rL : Nat → Int32) (b12 : Nat) (rA : Nat → Int32) (b13 : Nat) (rB : Nat → Int32) (b14 : Nat) (rF : Nat → Int32) (b15 : Nat) (rT : Nat → Int32) (b16 : Nat) (rW : Nat → Int32) (b17 : Nat) (rO : Nat → Int32) (b49 : Nat) (cC : Nat → Int32) (b50 : Nat) (cX : Nat → Int32) (b51 : Nat) (tC : Nat → Int32) (lc : Nat) (pe : Nat) (i : Nat) (n : Nat) (k : Nat) (hlen : vs.length = 64) (h18_ : vs[18]? = some (.int (nI nv))) (h6_ : vs[6]? = some (.ref b6)) (h7_ : vs[7]? = some (.ref b7)) (h12_ : vs[12]? = some (.ref b12)) (h13_ : vs[13]? = some (.ref b13)) (h14_ : vs[14]? = some (.ref b14)) (h15_ : vs[15]? = some (.ref b15)) (h16_ : vs[16]? = some (.ref b16)) (h17_ : vs[17]? = some (.ref b17)) (h49_ : vs[49]? = some (.ref b49)) (h50_ : vs[50]? = some (.ref b50)) (h51_ : vs[51]? = some (.ref b51)) (hnv : nv ≤ 10) (hv : i < nv) (hlc : lc ≤ 12) (hL : rL i = nI lc) (hpe : pe ≤ 4) (hP : rP i = nI pe) (hn1 : 1 ≤ n) (hn8 : n ≤ 8) (hk : k < 2) : MetI l g yX12_trade cX12_trade 6 (some .int) 3 0 0 [.ref h0, .int (nI i), .int (nI n), .int (nI k)] [(h0, .inr (12, vs)), (b6, .inl (g.2.1 1, 11, .inl rP)), (b7, .inl (g.2.1 1, 11, .inl rL)), (b12, .inl (g.2.1 1, 132, .inl rA)), (b13, .inl (g.2.1 1, 132, .inl rB)), (b14, .inl (g.2.1 1, 132, .inl rF)), (b15, .inl (g.2.1 1, 132, .inl rT)), (b16, .inl (g.2.1 1, 132, .inl rW)), (b17, .inl (g.2.1 3, 132, .inl rO)), (b49, .inl (g.2.1 1, 65536, .inl cC)), (b50, .inl (g.2.1 1, 65536, .inl cX)), (b51, .inl (g.2.1 1, 9, .inl tC))] (fun r u => r = (F_X12_trade1 rA rB rF rT rW rO cC cX tC lc pe i n k).1 ∧ u = [(h0, .inr (12, (vs.set 0 (.int 0)))), (b6, .inl (g.2.1 1, 11, .inl rP)), (b7, .inl (g.2.1 1, 11, .inl rL)), (b12, .inl (g.2.1 1, 132, .inl rA)), (b13, .inl (g.2.1 1, 132, .inl rB)), (b14, .inl (g.2.1 1, 132, .inl rF)), (b15, .inl (g.2.1 1, 132, .inl rT)), (b16, .inl (g.2.1 1, 132, .inl rW)), (b17, .inl (g.2.1 3, 132, .inl rO)), (b49, .inl (g.2.1 1, 65536, .inl ((F_X12_trade1 rA rB rF rT rW rO cC cX tC lc pe i n k).2.1))), (b50, .inl (g.2.1 1, 65536, .inl ((F_X12_trade1 rA rB rF rT rW rO cC cX tC lc pe i n k).2.2.1))), (b51, .inl (g.2.1 1, 9, .inl ((F_X12_trade1 rA rB rF rT rW rO cC cX tC lc pe i n k).2.2.2)))]) := by
  refine MetI.of (own := RX12) rfl (by decide) (Nat.le_of_ble_eq_true rfl) ?_
  intro p e s m below meth c A ls args Q hQ X hr hin hW hl
  have hx := X.1
  have hb := X.2.1
  have hl : lv_has ls 6 [(0, .ref h0), (1, .int (nI i)), (2, .int (nI n)), (3, .int (nI k))] := hl
  refine lv_aload_n (pc := 0) hx hb dX12_trade_0 rfl (lv_at hl 0 rfl) ?_
  refine lv_iconst (v := 0) (pc := 1) hx hb dX12_trade_1 (by decide) ?_
  refine r_put (ws' := [(h0, .inr (12, (vs.set 0 (.int 0)))), (b6, .inl (g.2.1 1, 11, .inl rP)), (b7, .inl (g.2.1 1, 11, .inl rL)), (b12, .inl (g.2.1 1, 132, .inl rA)), (b13, .inl (g.2.1 1, 132, .inl rB)), (b14, .inl (g.2.1 1, 132, .inl rF)), (b15, .inl (g.2.1 1, 132, .inl rT)), (b16, .inl (g.2.1 1, 132, .inl rW)), (b17, .inl (g.2.1 3, 132, .inl rO)), (b49, .inl (g.2.1 1, 65536, .inl cC)), (b50, .inl (g.2.1 1, 65536, .inl cX)), (b51, .inl (g.2.1 1, 9, .inl tC))]) X hW 0 ciX12 0 rfl (by decide) m_1231 rfl rfl rfl rfl (sv_lt (by decide) hlen) rfl dX12_trade_2 (fun H locs hW => ?_)
  refine lv_aload_n (pc := 5) hx hb dX12_trade_5 rfl (lv_at hl 0 rfl) ?_
  refine lv_iload_n (pc := 6) hx hb dX12_trade_6 rfl (lv_at hl 1 rfl) ?_
  refine c_Vi (pc := 7) (As := [.int (nI i)]) (rest := []) (wr := [(b6, .inl (g.2.1 1, 11, .inl rP)), (b7, .inl (g.2.1 1, 11, .inl rL)), (b12, .inl (g.2.1 1, 132, .inl rA)), (b13, .inl (g.2.1 1, 132, .inl rB)), (b14, .inl (g.2.1 1, 132, .inl rF)), (b15, .inl (g.2.1 1, 132, .inl rT)), (b16, .inl (g.2.1 1, 132, .inl rW)), (b17, .inl (g.2.1 3, 132, .inl rO)), (b49, .inl (g.2.1 1, 65536, .inl cC)), (b50, .inl (g.2.1 1, 65536, .inl cX)), (b51, .inl (g.2.1 1, 9, .inl tC))]) X hW 0 ciX12 rfl (K_X12_isValley l g h0 (vs.set 0 (.int 0)) nv (nI i) (sv_len hlen) (sv_ne (k := 0) (by decide) h18_)) vX12_221 [0] [1, 2, 3, 4, 5, 6, 7, 8, 9, 10, 11] rfl rfl rfl rfl rfl rfl hl.1 rfl (Nat.le_of_ble_eq_true rfl) ⟨Nat.le_of_ble_eq_true rfl, Nat.le_of_ble_eq_true rfl⟩ ⟨Nat.le_of_ble_eq_true rfl, Nat.le_of_ble_eq_true rfl⟩ dX12_trade_7 (fun r1 u9 H locs hq hW => ?_)
  obtain ⟨rfl, rfl⟩ := hq
  have hW : WD g A s _ _ [(b6, .inl (g.2.1 1, 11, .inl rP)), (b7, .inl (g.2.1 1, 11, .inl rL)), (b12, .inl (g.2.1 1, 132, .inl rA)), (b13, .inl (g.2.1 1, 132, .inl rB)), (b14, .inl (g.2.1 1, 132, .inl rF)), (b15, .inl (g.2.1 1, 132, .inl rT)), (b16, .inl (g.2.1 1, 132, .inl rW)), (b17, .inl (g.2.1 3, 132, .inl rO)), (b49, .inl (g.2.1 1, 65536, .inl cC)), (b50, .inl (g.2.1 1, 65536, .inl cX)), (b51, .inl (g.2.1 1, 9, .inl tC)), (h0, .inr (12, (vs.set 0 (.int 0))))] := hW
  refine lv_if_eq (tgt := 42) (pc := 10) hx hb dX12_trade_10 rfl (fun c2 => absurd c2 (rv_yes hnv hv)) (fun c2 => ?_)
  refine lv_aload_n (pc := 13) hx hb dX12_trade_13 rfl (lv_at hl 0 rfl) ?_
  refine r_get X hW 11 ciX12 6 rfl (by decide) m_1237 rfl (sv_ne (k := 0) (by decide) h6_) dX12_trade_14 ?_
  refine lv_iload_n (pc := 17) hx hb dX12_trade_17 rfl (lv_at hl 1 rfl) ?_
  refine r_iald X hW 0 rfl (vp_in_nI (by omega) (by decide)) dX12_trade_18 ?_
  refine lv_topi (fun v3 ev3 => ?_)
  obtain rfl : v3 = rP i := ev3.trans (by rw [nI_clamp (by omega)])
  rw [hP]
  refine lv_iconst (v := 4) (pc := 19) hx hb dX12_trade_19 (by decide) ?_
  refine lv_icmp_gt (tgt := 42) (pc := 20) hx hb dX12_trade_20 rfl (fun c4 => absurd c4 (fun q => absurd ((nI_ltI (a := 4) (b := pe) (by omega) (by omega)).mp q) (by omega))) (fun c4 => ?_)
  refine lv_iload_n (pc := 23) hx hb dX12_trade_23 rfl (lv_at hl 2 rfl) ?_
  refine lv_iconst (v := 1) (pc := 24) hx hb dX12_trade_24 (by decide) ?_
  refine lv_bipush (v := 8) (pc := 25) hx hb dX12_trade_25 (by decide) ?_
  refine c_Si (pc := 27) (As := [.int (nI n), .int 1, .int 8]) (rest := []) (wr := [(b6, .inl (g.2.1 1, 11, .inl rP)), (b7, .inl (g.2.1 1, 11, .inl rL)), (b12, .inl (g.2.1 1, 132, .inl rA)), (b13, .inl (g.2.1 1, 132, .inl rB)), (b14, .inl (g.2.1 1, 132, .inl rF)), (b15, .inl (g.2.1 1, 132, .inl rT)), (b16, .inl (g.2.1 1, 132, .inl rW)), (b17, .inl (g.2.1 3, 132, .inl rO)), (b49, .inl (g.2.1 1, 65536, .inl cC)), (b50, .inl (g.2.1 1, 65536, .inl cX)), (b51, .inl (g.2.1 1, 9, .inl tC)), (h0, .inr (12, (vs.set 0 (.int 0))))]) X hW (K_X12_isIn l g (nI n) (1 : Int32) (8 : Int32)) vX12_198 [] [0, 1, 2, 3, 4, 5, 6, 7, 8, 9, 10, 11] rfl rfl rfl rfl rfl rfl hl.1 rfl (Nat.le_of_ble_eq_true rfl) ⟨Nat.le_of_ble_eq_true rfl, Nat.le_of_ble_eq_true rfl⟩ ⟨Nat.le_of_ble_eq_true rfl, Nat.le_of_ble_eq_true rfl⟩ dX12_trade_27 (fun r5 u9 H locs hq hW => ?_)
  obtain ⟨rfl, rfl⟩ := hq
  have hW : WD g A s _ _ [(b6, .inl (g.2.1 1, 11, .inl rP)), (b7, .inl (g.2.1 1, 11, .inl rL)), (b12, .inl (g.2.1 1, 132, .inl rA)), (b13, .inl (g.2.1 1, 132, .inl rB)), (b14, .inl (g.2.1 1, 132, .inl rF)), (b15, .inl (g.2.1 1, 132, .inl rT)), (b16, .inl (g.2.1 1, 132, .inl rW)), (b17, .inl (g.2.1 3, 132, .inl rO)), (b49, .inl (g.2.1 1, 65536, .inl cC)), (b50, .inl (g.2.1 1, 65536, .inl cX)), (b51, .inl (g.2.1 1, 9, .inl tC)), (h0, .inr (12, (vs.set 0 (.int 0))))] := hW
  refine lv_if_eq (tgt := 42) (pc := 30) hx hb dX12_trade_30 rfl (fun c6 => absurd c6 (in_18 n (by omega) hn1)) (fun c6 => ?_)
  refine lv_iload_n (pc := 33) hx hb dX12_trade_33 rfl (lv_at hl 3 rfl) ?_
  refine lv_iconst (v := 0) (pc := 34) hx hb dX12_trade_34 (by decide) ?_
  refine lv_iconst (v := 1) (pc := 35) hx hb dX12_trade_35 (by decide) ?_
  refine c_Si (pc := 36) (As := [.int (nI k), .int 0, .int 1]) (rest := []) (wr := [(b6, .inl (g.2.1 1, 11, .inl rP)), (b7, .inl (g.2.1 1, 11, .inl rL)), (b12, .inl (g.2.1 1, 132, .inl rA)), (b13, .inl (g.2.1 1, 132, .inl rB)), (b14, .inl (g.2.1 1, 132, .inl rF)), (b15, .inl (g.2.1 1, 132, .inl rT)), (b16, .inl (g.2.1 1, 132, .inl rW)), (b17, .inl (g.2.1 3, 132, .inl rO)), (b49, .inl (g.2.1 1, 65536, .inl cC)), (b50, .inl (g.2.1 1, 65536, .inl cX)), (b51, .inl (g.2.1 1, 9, .inl tC)), (h0, .inr (12, (vs.set 0 (.int 0))))]) X hW (K_X12_isIn l g (nI k) (0 : Int32) (1 : Int32)) vX12_198 [] [0, 1, 2, 3, 4, 5, 6, 7, 8, 9, 10, 11] rfl rfl rfl rfl rfl rfl hl.1 rfl (Nat.le_of_ble_eq_true rfl) ⟨Nat.le_of_ble_eq_true rfl, Nat.le_of_ble_eq_true rfl⟩ ⟨Nat.le_of_ble_eq_true rfl, Nat.le_of_ble_eq_true rfl⟩ dX12_trade_36 (fun r7 u9 H locs hq hW => ?_)
  obtain ⟨rfl, rfl⟩ := hq
  have hW : WD g A s _ _ [(b6, .inl (g.2.1 1, 11, .inl rP)), (b7, .inl (g.2.1 1, 11, .inl rL)), (b12, .inl (g.2.1 1, 132, .inl rA)), (b13, .inl (g.2.1 1, 132, .inl rB)), (b14, .inl (g.2.1 1, 132, .inl rF)), (b15, .inl (g.2.1 1, 132, .inl rT)), (b16, .inl (g.2.1 1, 132, .inl rW)), (b17, .inl (g.2.1 3, 132, .inl rO)), (b49, .inl (g.2.1 1, 65536, .inl cC)), (b50, .inl (g.2.1 1, 65536, .inl cX)), (b51, .inl (g.2.1 1, 9, .inl tC)), (h0, .inr (12, (vs.set 0 (.int 0))))] := hW
  refine lv_if_ne (tgt := 44) (pc := 39) hx hb dX12_trade_39 rfl (fun c8 => ?_) (fun c8 => absurd c8 (in_01 k hk))
  refine lv_aload_n (pc := 44) hx hb dX12_trade_44 rfl (lv_at hl 0 rfl) ?_
  refine lv_iload_n (pc := 45) hx hb dX12_trade_45 rfl (lv_at hl 1 rfl) ?_
  refine c_Vv (pc := 46) (As := [.int (nI i)]) (rest := []) (wr := []) X hW 11 ciX12 rfl (K_X12_layTrades l g h0 (vs.set 0 (.int 0)) b6 rP b7 rL b12 rA b13 rB b14 rF b15 rT b16 rW b17 rO b49 cC b50 cX b51 tC lc pe i (sv_len hlen) (sv_ne (k := 0) (by decide) h6_) (sv_ne (k := 0) (by decide) h7_) (sv_ne (k := 0) (by decide) h12_) (sv_ne (k := 0) (by decide) h13_) (sv_ne (k := 0) (by decide) h14_) (sv_ne (k := 0) (by decide) h15_) (sv_ne (k := 0) (by decide) h16_) (sv_ne (k := 0) (by decide) h17_) (sv_ne (k := 0) (by decide) h49_) (sv_ne (k := 0) (by decide) h50_) (sv_ne (k := 0) (by decide) h51_) (by omega) hlc hL hpe hP) vX12_364 [11, 0, 1, 2, 3, 4, 5, 6, 7, 8, 9, 10] [] rfl rfl rfl rfl rfl rfl hl.1 rfl (Nat.le_of_ble_eq_true rfl) ⟨Nat.le_of_ble_eq_true rfl, Nat.le_of_ble_eq_true rfl⟩ ⟨Nat.le_of_ble_eq_true rfl, Nat.le_of_ble_eq_true rfl⟩ dX12_trade_46 (fun u9 H locs hq hW => ?_)
  obtain rfl := hq
  have hW : WD g A s _ _ [(h0, .inr (12, (vs.set 0 (.int 0)))), (b6, .inl (g.2.1 1, 11, .inl rP)), (b7, .inl (g.2.1 1, 11, .inl rL)), (b12, .inl (g.2.1 1, 132, .inl rA)), (b13, .inl (g.2.1 1, 132, .inl rB)), (b14, .inl (g.2.1 1, 132, .inl rF)), (b15, .inl (g.2.1 1, 132, .inl rT)), (b16, .inl (g.2.1 1, 132, .inl rW)), (b17, .inl (g.2.1 3, 132, .inl rO)), (b49, .inl (g.2.1 1, 65536, .inl ((F_X12_layTrades rA rB rF rT rW rO cC cX tC lc pe i).1))), (b50, .inl (g.2.1 1, 65536, .inl ((F_X12_layTrades rA rB rF rT rW rO cC cX tC lc pe i).2.1))), (b51, .inl (g.2.1 1, 9, .inl ((F_X12_layTrades rA rB rF rT rW rO cC cX tC lc pe i).2.2)))] := hW
  refine lv_aload_n (pc := 49) hx hb dX12_trade_49 rfl (lv_at hl 0 rfl) ?_
  refine r_get X hW 0 ciX12 51 rfl (by decide) m_1278 rfl (sv_ne (k := 0) (by decide) h51_) dX12_trade_50 ?_
  refine lv_iload_n (pc := 53) hx hb dX12_trade_53 rfl (lv_at hl 2 rfl) ?_
  refine r_iald X hW 11 rfl (vp_in_nI (by omega) (by decide)) dX12_trade_54 ?_
  refine lv_topi (fun v9 ev9 => ?_)
  obtain rfl : v9 = ((F_X12_layTrades rA rB rF rT rW rO cC cX tC lc pe i).2.2) n := ev9.trans (by rw [nI_clamp (by omega)])
  refine lv_bipush (v := 99) (pc := 55) hx hb dX12_trade_55 (by decide) ?_
  refine lv_icmp_ne (tgt := 62) (pc := 57) hx hb dX12_trade_57 rfl (fun c10 => ?_) (fun c10 => ?_)
  · refine lv_iconst (v := 1) (pc := 62) hx hb dX12_trade_62 (by decide) ?_
    refine lv_istore (lv' := [(4, .int 1), (0, .ref h0), (1, .int (nI i)), (2, .int (nI n)), (3, .int (nI k))]) (pc := 63) hx hb dX12_trade_63 hl (by decide) rfl (fun ls hl => ?_)
    refine lv_iconst (v := 1) (pc := 65) hx hb dX12_trade_65 (by decide) ?_
    refine lv_istore (lv' := [(5, .int 1), (4, .int 1), (0, .ref h0), (1, .int (nI i)), (2, .int (nI n)), (3, .int (nI k))]) (pc := 66) hx hb dX12_trade_66 hl (by decide) rfl (fun ls hl => ?_)
    have loop1 : ∀ (fu1 : Nat) (j1 : Nat) (x4_1 : Int32), ((n - 1) < fu1 + j1) → (j1 ≤ (n - 1)) → (x4_1 = L1_X12_trade1 rA rB rF rT rW rO cC cX tC lc pe i n (1 : Int32) j1) → ∀ (H : Heap) (locs : List Loc) (ls : Array Slot), WD g A s H locs [(h0, .inr (12, (vs.set 0 (.int 0)))), (b6, .inl (g.2.1 1, 11, .inl rP)), (b7, .inl (g.2.1 1, 11, .inl rL)), (b12, .inl (g.2.1 1, 132, .inl rA)), (b13, .inl (g.2.1 1, 132, .inl rB)), (b14, .inl (g.2.1 1, 132, .inl rF)), (b15, .inl (g.2.1 1, 132, .inl rT)), (b16, .inl (g.2.1 1, 132, .inl rW)), (b17, .inl (g.2.1 3, 132, .inl rO)), (b49, .inl (g.2.1 1, 65536, .inl ((F_X12_layTrades rA rB rF rT rW rO cC cX tC lc pe i).1))), (b50, .inl (g.2.1 1, 65536, .inl ((F_X12_layTrades rA rB rF rT rW rO cC cX tC lc pe i).2.1))), (b51, .inl (g.2.1 1, 9, .inl ((F_X12_layTrades rA rB rF rT rW rO cC cX tC lc pe i).2.2)))] → lv_has ls 6 [(5, .int (nI (1 + j1))), (4, .int x4_1), (0, .ref h0), (1, .int (nI i)), (2, .int (nI n)), (3, .int (nI k))] → W p l e (RM 3 0 0) s m args below meth c H locs 0 0 Q (F0 m 68 ls []) := by
      intro fu1
      induction fu1 with
      | zero =>
        intro j1 x4_1 hm1 hj1 hst1
        exact absurd hm1 (by omega)
      | succ fu1 ih1 =>
        intro j1 x4_1 hm1 hj1 hst1 H locs ls hW hl
        refine lv_iload (pc := 68) hx hb dX12_trade_68 (lv_at hl 0 rfl) ?_
        refine lv_iload_n (pc := 70) hx hb dX12_trade_70 rfl (lv_at hl 4 rfl) ?_
        refine lv_icmp_ge (tgt := 108) (pc := 71) hx hb dX12_trade_71 rfl (fun c12 => ?_) (fun c12 => ?_)
        · have h13 : n ≤ (1 + j1) := (nI_leI (a := n) (b := (1 + j1)) (by omega) (by omega)).mp c12
          have hN1 : j1 = (n - 1) := by omega
          rw [hN1] at hst1
          subst hst1
          have hW : WD g A s _ _ [(h0, .inr (12, (vs.set 0 (.int 0)))), (b6, .inl (g.2.1 1, 11, .inl rP)), (b7, .inl (g.2.1 1, 11, .inl rL)), (b12, .inl (g.2.1 1, 132, .inl rA)), (b13, .inl (g.2.1 1, 132, .inl rB)), (b14, .inl (g.2.1 1, 132, .inl rF)), (b15, .inl (g.2.1 1, 132, .inl rT)), (b16, .inl (g.2.1 1, 132, .inl rW)), (b17, .inl (g.2.1 3, 132, .inl rO)), (b49, .inl (g.2.1 1, 65536, .inl ((F_X12_layTrades rA rB rF rT rW rO cC cX tC lc pe i).1))), (b50, .inl (g.2.1 1, 65536, .inl ((F_X12_layTrades rA rB rF rT rW rO cC cX tC lc pe i).2.1))), (b51, .inl (g.2.1 1, 9, .inl ((F_X12_layTrades rA rB rF rT rW rO cC cX tC lc pe i).2.2)))] := hW
          refine lv_iload_n (pc := 108) hx hb dX12_trade_108 rfl (lv_at hl 5 rfl) ?_
          refine lv_if_ne (tgt := 121) (pc := 109) hx hb dX12_trade_109 rfl (fun c14 => ?_) (fun c14 => ?_)
          · have h15 : ¬ (k = 0) := fun q => c14 ((nI_eq (a := k) (b := 0) (by omega) (by omega)).mpr q)
            refine lv_iload (pc := 121) hx hb dX12_trade_121 (lv_at hl 1 rfl) ?_
            refine lv_if_eq (tgt := 130) (pc := 123) hx hb dX12_trade_123 rfl (fun c16 => ?_) (fun c16 => ?_)
            · refine lv_iconst (v := 0) (pc := 130) hx hb dX12_trade_130 (by decide) ?_
              have hF : F_X12_trade1 rA rB rF rT rW rO cC cX tC lc pe i n k = ((0 : Int32), ((F_X12_layTrades rA rB rF rT rW rO cC cX tC lc pe i).1), ((F_X12_layTrades rA rB rF rT rW rO cC cX tC lc pe i).2.1), ((F_X12_layTrades rA rB rF rT rW rO cC cX tC lc pe i).2.2)) := show F_X12_trade1 rA rB rF rT rW rO cC cX tC lc pe i n k = ((0 : Int32), ((F_X12_layTrades rA rB rF rT rW rO cC cX tC lc pe i).1), ((F_X12_layTrades rA rB rF rT rW rO cC cX tC lc pe i).2.1), ((F_X12_layTrades rA rB rF rT rW rO cC cX tC lc pe i).2.2)) from by rw [F_X12_trade1, if_neg c10, if_neg c14, if_pos c16]
              exact e_i (u := [(h0, .inr (12, (vs.set 0 (.int 0)))), (b6, .inl (g.2.1 1, 11, .inl rP)), (b7, .inl (g.2.1 1, 11, .inl rL)), (b12, .inl (g.2.1 1, 132, .inl rA)), (b13, .inl (g.2.1 1, 132, .inl rB)), (b14, .inl (g.2.1 1, 132, .inl rF)), (b15, .inl (g.2.1 1, 132, .inl rT)), (b16, .inl (g.2.1 1, 132, .inl rW)), (b17, .inl (g.2.1 3, 132, .inl rO)), (b49, .inl (g.2.1 1, 65536, .inl ((F_X12_layTrades rA rB rF rT rW rO cC cX tC lc pe i).1))), (b50, .inl (g.2.1 1, 65536, .inl ((F_X12_layTrades rA rB rF rT rW rO cC cX tC lc pe i).2.1))), (b51, .inl (g.2.1 1, 9, .inl ((F_X12_layTrades rA rB rF rT rW rO cC cX tC lc pe i).2.2)))]) X hQ hr (hW) [0, 1, 2, 3, 4, 5, 6, 7, 8, 9, 10, 11] rfl rfl (⟨(congrArg Prod.fst hF).symm, by rw [hF]⟩) ⟨Nat.le_of_ble_eq_true rfl, Nat.le_of_ble_eq_true rfl⟩ dX12_trade_131
            · refine lv_iconst (v := 1) (pc := 126) hx hb dX12_trade_126 (by decide) ?_
              refine lv_goto (tgt := 131) (pc := 127) hx hb dX12_trade_127 rfl ?_
              have hF : F_X12_trade1 rA rB rF rT rW rO cC cX tC lc pe i n k = ((1 : Int32), ((F_X12_layTrades rA rB rF rT rW rO cC cX tC lc pe i).1), ((F_X12_layTrades rA rB rF rT rW rO cC cX tC lc pe i).2.1), ((F_X12_layTrades rA rB rF rT rW rO cC cX tC lc pe i).2.2)) := show F_X12_trade1 rA rB rF rT rW rO cC cX tC lc pe i n k = ((1 : Int32), ((F_X12_layTrades rA rB rF rT rW rO cC cX tC lc pe i).1), ((F_X12_layTrades rA rB rF rT rW rO cC cX tC lc pe i).2.1), ((F_X12_layTrades rA rB rF rT rW rO cC cX tC lc pe i).2.2)) from by rw [F_X12_trade1, if_neg c10, if_neg c14, if_neg c16]
              exact e_i (u := [(h0, .inr (12, (vs.set 0 (.int 0)))), (b6, .inl (g.2.1 1, 11, .inl rP)), (b7, .inl (g.2.1 1, 11, .inl rL)), (b12, .inl (g.2.1 1, 132, .inl rA)), (b13, .inl (g.2.1 1, 132, .inl rB)), (b14, .inl (g.2.1 1, 132, .inl rF)), (b15, .inl (g.2.1 1, 132, .inl rT)), (b16, .inl (g.2.1 1, 132, .inl rW)), (b17, .inl (g.2.1 3, 132, .inl rO)), (b49, .inl (g.2.1 1, 65536, .inl ((F_X12_layTrades rA rB rF rT rW rO cC cX tC lc pe i).1))), (b50, .inl (g.2.1 1, 65536, .inl ((F_X12_layTrades rA rB rF rT rW rO cC cX tC lc pe i).2.1))), (b51, .inl (g.2.1 1, 9, .inl ((F_X12_layTrades rA rB rF rT rW rO cC cX tC lc pe i).2.2)))]) X hQ hr (hW) [0, 1, 2, 3, 4, 5, 6, 7, 8, 9, 10, 11] rfl rfl (⟨(congrArg Prod.fst hF).symm, by rw [hF]⟩) ⟨Nat.le_of_ble_eq_true rfl, Nat.le_of_ble_eq_true rfl⟩ dX12_trade_131
          · have h19 : k = 0 := (nI_eq (a := k) (b := 0) (by omega) (by omega)).mp c14
            refine lv_aload_n (pc := 112) hx hb dX12_trade_112 rfl (lv_at hl 2 rfl) ?_
            refine r_get X hW 0 ciX12 51 rfl (by decide) m_1278 rfl (sv_ne (k := 0) (by decide) h51_) dX12_trade_113 ?_
            refine lv_iload_n (pc := 116) hx hb dX12_trade_116 rfl (lv_at hl 4 rfl) ?_
            refine r_iald X hW 11 rfl (vp_in_nI (by omega) (by decide)) dX12_trade_117 ?_
            refine lv_topi (fun v20 ev20 => ?_)
            obtain rfl : v20 = ((F_X12_layTrades rA rB rF rT rW rO cC cX tC lc pe i).2.2) n := ev20.trans (by rw [nI_clamp (by omega)])
            refine lv_goto (tgt := 131) (pc := 118) hx hb dX12_trade_118 rfl ?_
            have hF : F_X12_trade1 rA rB rF rT rW rO cC cX tC lc pe i n k = (((F_X12_layTrades rA rB rF rT rW rO cC cX tC lc pe i).2.2) n, ((F_X12_layTrades rA rB rF rT rW rO cC cX tC lc pe i).1), ((F_X12_layTrades rA rB rF rT rW rO cC cX tC lc pe i).2.1), ((F_X12_layTrades rA rB rF rT rW rO cC cX tC lc pe i).2.2)) := show F_X12_trade1 rA rB rF rT rW rO cC cX tC lc pe i n k = (((F_X12_layTrades rA rB rF rT rW rO cC cX tC lc pe i).2.2) n, ((F_X12_layTrades rA rB rF rT rW rO cC cX tC lc pe i).1), ((F_X12_layTrades rA rB rF rT rW rO cC cX tC lc pe i).2.1), ((F_X12_layTrades rA rB rF rT rW rO cC cX tC lc pe i).2.2)) from by rw [F_X12_trade1, if_neg c10, if_pos c14]
            exact e_i (u := [(h0, .inr (12, (vs.set 0 (.int 0)))), (b6, .inl (g.2.1 1, 11, .inl rP)), (b7, .inl (g.2.1 1, 11, .inl rL)), (b12, .inl (g.2.1 1, 132, .inl rA)), (b13, .inl (g.2.1 1, 132, .inl rB)), (b14, .inl (g.2.1 1, 132, .inl rF)), (b15, .inl (g.2.1 1, 132, .inl rT)), (b16, .inl (g.2.1 1, 132, .inl rW)), (b17, .inl (g.2.1 3, 132, .inl rO)), (b49, .inl (g.2.1 1, 65536, .inl ((F_X12_layTrades rA rB rF rT rW rO cC cX tC lc pe i).1))), (b50, .inl (g.2.1 1, 65536, .inl ((F_X12_layTrades rA rB rF rT rW rO cC cX tC lc pe i).2.1))), (b51, .inl (g.2.1 1, 9, .inl ((F_X12_layTrades rA rB rF rT rW rO cC cX tC lc pe i).2.2)))]) X hQ hr (hW) [0, 1, 2, 3, 4, 5, 6, 7, 8, 9, 10, 11] rfl rfl (⟨(congrArg Prod.fst hF).symm, by rw [hF]⟩) ⟨Nat.le_of_ble_eq_true rfl, Nat.le_of_ble_eq_true rfl⟩ dX12_trade_131
        · have h21 : ¬ (n ≤ (1 + j1)) := fun q => c12 ((nI_leI (a := n) (b := (1 + j1)) (by omega) (by omega)).mpr q)
          refine lv_iload (pc := 74) hx hb dX12_trade_74 (lv_at hl 1 rfl) ?_
          refine lv_if_eq (tgt := 99) (pc := 76) hx hb dX12_trade_76 rfl (fun c22 => ?_) (fun c22 => ?_)
          · refine lv_iconst (v := 0) (pc := 99) hx hb dX12_trade_99 (by decide) ?_
            refine lv_istore (lv' := [(4, .int 0), (5, .int (nI (1 + j1))), (0, .ref h0), (1, .int (nI i)), (2, .int (nI n)), (3, .int (nI k))]) (pc := 100) hx hb dX12_trade_100 hl (by decide) rfl (fun ls hl => ?_)
            refine lv_iinc (v := nI (1 + j1 + 1)) (lv' := [(5, .int (nI (1 + j1 + 1))), (4, .int 0), (0, .ref h0), (1, .int (nI i)), (2, .int (nI n)), (3, .int (nI k))]) (pc := 102) hx hb dX12_trade_102 hl (k := 1) rfl (nI_add (1 + j1) 1) (by decide) rfl (fun ls hl => ?_)
            refine lv_goto (tgt := 68) (pc := 105) hx hb dX12_trade_105 rfl ?_
            exact ih1 (j1 + 1) (0 : Int32) (by omega) (by omega) (by rw [L1_X12_trade1, ← hst1]; exact (show L1_X12_trade1s rA rB rF rT rW rO cC cX tC lc pe i n j1 x4_1 = (0 : Int32) from by rw [L1_X12_trade1s, if_pos c22]).symm) _ _ _ hW (lv_sub hl [0, 1, 2, 3, 4, 5] rfl)
          · refine lv_aload_n (pc := 79) hx hb dX12_trade_79 rfl (lv_at hl 2 rfl) ?_
            refine r_get X hW 0 ciX12 51 rfl (by decide) m_1278 rfl (sv_ne (k := 0) (by decide) h51_) dX12_trade_80 ?_
            refine lv_iload (pc := 83) hx hb dX12_trade_83 (lv_at hl 0 rfl) ?_
            refine r_iald X hW 11 rfl (vp_in_nI (by omega) (by decide)) dX12_trade_85 ?_
            refine lv_topi (fun v25 ev25 => ?_)
            obtain rfl : v25 = ((F_X12_layTrades rA rB rF rT rW rO cC cX tC lc pe i).2.2) (1 + j1) := ev25.trans (by rw [nI_clamp (by omega)])
            refine lv_aload_n (pc := 86) hx hb dX12_trade_86 rfl (lv_at hl 2 rfl) ?_
            refine r_get X hW 0 ciX12 51 rfl (by decide) m_1278 rfl (sv_ne (k := 0) (by decide) h51_) dX12_trade_87 ?_
            refine lv_iload_n (pc := 90) hx hb dX12_trade_90 rfl (lv_at hl 4 rfl) ?_
            refine r_iald X hW 11 rfl (vp_in_nI (by omega) (by decide)) dX12_trade_91 ?_
            refine lv_topi (fun v26 ev26 => ?_)
            obtain rfl : v26 = ((F_X12_layTrades rA rB rF rT rW rO cC cX tC lc pe i).2.2) n := ev26.trans (by rw [nI_clamp (by omega)])
            refine lv_icmp_le (tgt := 99) (pc := 92) hx hb dX12_trade_92 rfl (fun c27 => ?_) (fun c27 => ?_)
            · refine lv_iconst (v := 0) (pc := 99) hx hb dX12_trade_99 (by decide) ?_
              refine lv_istore (lv' := [(4, .int 0), (5, .int (nI (1 + j1))), (0, .ref h0), (1, .int (nI i)), (2, .int (nI n)), (3, .int (nI k))]) (pc := 100) hx hb dX12_trade_100 hl (by decide) rfl (fun ls hl => ?_)
              refine lv_iinc (v := nI (1 + j1 + 1)) (lv' := [(5, .int (nI (1 + j1 + 1))), (4, .int 0), (0, .ref h0), (1, .int (nI i)), (2, .int (nI n)), (3, .int (nI k))]) (pc := 102) hx hb dX12_trade_102 hl (k := 1) rfl (nI_add (1 + j1) 1) (by decide) rfl (fun ls hl => ?_)
              refine lv_goto (tgt := 68) (pc := 105) hx hb dX12_trade_105 rfl ?_
              exact ih1 (j1 + 1) (0 : Int32) (by omega) (by omega) (by rw [L1_X12_trade1, ← hst1]; exact (show L1_X12_trade1s rA rB rF rT rW rO cC cX tC lc pe i n j1 x4_1 = (0 : Int32) from by rw [L1_X12_trade1s, if_neg c22, if_pos c27]).symm) _ _ _ hW (lv_sub hl [0, 1, 2, 3, 4, 5] rfl)
            · refine lv_iconst (v := 1) (pc := 95) hx hb dX12_trade_95 (by decide) ?_
              refine lv_goto (tgt := 100) (pc := 96) hx hb dX12_trade_96 rfl ?_
              refine lv_istore (lv' := [(4, .int 1), (5, .int (nI (1 + j1))), (0, .ref h0), (1, .int (nI i)), (2, .int (nI n)), (3, .int (nI k))]) (pc := 100) hx hb dX12_trade_100 hl (by decide) rfl (fun ls hl => ?_)
              refine lv_iinc (v := nI (1 + j1 + 1)) (lv' := [(5, .int (nI (1 + j1 + 1))), (4, .int 1), (0, .ref h0), (1, .int (nI i)), (2, .int (nI n)), (3, .int (nI k))]) (pc := 102) hx hb dX12_trade_102 hl (k := 1) rfl (nI_add (1 + j1) 1) (by decide) rfl (fun ls hl => ?_)
              refine lv_goto (tgt := 68) (pc := 105) hx hb dX12_trade_105 rfl ?_
              exact ih1 (j1 + 1) (1 : Int32) (by omega) (by omega) (by rw [L1_X12_trade1, ← hst1]; exact (show L1_X12_trade1s rA rB rF rT rW rO cC cX tC lc pe i n j1 x4_1 = (1 : Int32) from by rw [L1_X12_trade1s, if_neg c22, if_neg c27]).symm) _ _ _ hW (lv_sub hl [0, 1, 2, 3, 4, 5] rfl)
    exact loop1 ((n - 1) + 1) 0 (1 : Int32) (by omega) (by omega) rfl _ _ _ hW (lv_sub hl [0, 1, 2, 3, 4, 5] rfl)
  · refine lv_iconst (v := (-1)) (pc := 60) hx hb dX12_trade_60 (by decide) ?_
    have hF : F_X12_trade1 rA rB rF rT rW rO cC cX tC lc pe i n k = ((-1 : Int32), ((F_X12_layTrades rA rB rF rT rW rO cC cX tC lc pe i).1), ((F_X12_layTrades rA rB rF rT rW rO cC cX tC lc pe i).2.1), ((F_X12_layTrades rA rB rF rT rW rO cC cX tC lc pe i).2.2)) := show F_X12_trade1 rA rB rF rT rW rO cC cX tC lc pe i n k = ((-1 : Int32), ((F_X12_layTrades rA rB rF rT rW rO cC cX tC lc pe i).1), ((F_X12_layTrades rA rB rF rT rW rO cC cX tC lc pe i).2.1), ((F_X12_layTrades rA rB rF rT rW rO cC cX tC lc pe i).2.2)) from by rw [F_X12_trade1, if_pos c10]
    exact e_i (u := [(h0, .inr (12, (vs.set 0 (.int 0)))), (b6, .inl (g.2.1 1, 11, .inl rP)), (b7, .inl (g.2.1 1, 11, .inl rL)), (b12, .inl (g.2.1 1, 132, .inl rA)), (b13, .inl (g.2.1 1, 132, .inl rB)), (b14, .inl (g.2.1 1, 132, .inl rF)), (b15, .inl (g.2.1 1, 132, .inl rT)), (b16, .inl (g.2.1 1, 132, .inl rW)), (b17, .inl (g.2.1 3, 132, .inl rO)), (b49, .inl (g.2.1 1, 65536, .inl ((F_X12_layTrades rA rB rF rT rW rO cC cX tC lc pe i).1))), (b50, .inl (g.2.1 1, 65536, .inl ((F_X12_layTrades rA rB rF rT rW rO cC cX tC lc pe i).2.1))), (b51, .inl (g.2.1 1, 9, .inl ((F_X12_layTrades rA rB rF rT rW rO cC cX tC lc pe i).2.2)))]) X hQ hr (hW) [0, 1, 2, 3, 4, 5, 6, 7, 8, 9, 10, 11] rfl rfl (⟨(congrArg Prod.fst hF).symm, by rw [hF]⟩) ⟨Nat.le_of_ble_eq_true rfl, Nat.le_of_ble_eq_true rfl⟩ dX12_trade_61

def F_X12_trade0 (nv : Nat) (rP : Nat → Int32) (x : Int32) (y : Int32) (z : Int32) : Int32 := if F_X12_isValley nv x = 0 then ((-1 : Int32)) else (if 4 < rP (tN x) then ((-1 : Int32)) else (if F_X12_isIn y (1 : Int32) (8 : Int32) = 0 then ((-1 : Int32)) else (if F_X12_isIn z (0 : Int32) (1 : Int32) = 0 then ((-1 : Int32)) else ((-1 : Int32)))))
set_option maxHeartbeats 4000000 in
set_option maxRecDepth 100000 in
theorem K_X12_trade0 (l : Launch) (g : GG) (h0 : Nat) (vs : List Value) (nv : Nat) (b6 : Nat) (rP : Nat → Int32) (x : Int32) (y : Int32) (z : Int32) (hlen : vs.length = 64) (h18_ : vs[18]? = some (.int (nI nv))) (h6_ : vs[6]? = some (.ref b6)) (hn : nv ≤ 10) (hbad : F_X12_isValley nv x = 0 ∨ 4 < rP (tN x) ∨ F_X12_isIn y 1 8 = 0 ∨ F_X12_isIn z 0 1 = 0) : MetI l g yX12_trade cX12_trade 6 (some .int) 1 0 0 [.ref h0, .int x, .int y, .int z] [(h0, .inr (12, vs)), (b6, .inl (g.2.1 1, 11, .inl rP))] (fun r u => r = (F_X12_trade0 nv rP x y z) ∧ u = [(h0, .inr (12, (vs.set 0 (.int 0)))), (b6, .inl (g.2.1 1, 11, .inl rP))]) := by
  refine MetI.of (own := RX12) rfl (by decide) (Nat.le_of_ble_eq_true rfl) ?_
  intro p e s m below meth c A ls args Q hQ X hr hin hW hl
  have hx := X.1
  have hb := X.2.1
  have hl : lv_has ls 6 [(0, .ref h0), (1, .int x), (2, .int y), (3, .int z)] := hl
  refine lv_aload_n (pc := 0) hx hb dX12_trade_0 rfl (lv_at hl 0 rfl) ?_
  refine lv_iconst (v := 0) (pc := 1) hx hb dX12_trade_1 (by decide) ?_
  refine r_put (ws' := [(h0, .inr (12, (vs.set 0 (.int 0)))), (b6, .inl (g.2.1 1, 11, .inl rP))]) X hW 0 ciX12 0 rfl (by decide) m_1231 rfl rfl rfl rfl (sv_lt (by decide) hlen) rfl dX12_trade_2 (fun H locs hW => ?_)
  refine lv_aload_n (pc := 5) hx hb dX12_trade_5 rfl (lv_at hl 0 rfl) ?_
  refine lv_iload_n (pc := 6) hx hb dX12_trade_6 rfl (lv_at hl 1 rfl) ?_
  refine c_Vi (pc := 7) (As := [.int x]) (rest := []) (wr := [(b6, .inl (g.2.1 1, 11, .inl rP))]) X hW 0 ciX12 rfl (K_X12_isValley l g h0 (vs.set 0 (.int 0)) nv x (sv_len hlen) (sv_ne (k := 0) (by decide) h18_)) vX12_221 [0] [1] rfl rfl rfl rfl rfl rfl hl.1 rfl (Nat.le_of_ble_eq_true rfl) ⟨Nat.le_of_ble_eq_true rfl, Nat.le_of_ble_eq_true rfl⟩ ⟨Nat.le_of_ble_eq_true rfl, Nat.le_of_ble_eq_true rfl⟩ dX12_trade_7 (fun r1 u9 H locs hq hW => ?_)
  obtain ⟨rfl, rfl⟩ := hq
  have hW : WD g A s _ _ [(b6, .inl (g.2.1 1, 11, .inl rP)), (h0, .inr (12, (vs.set 0 (.int 0))))] := hW
  refine lv_if_eq (tgt := 42) (pc := 10) hx hb dX12_trade_10 rfl (fun c2 => ?_) (fun c2 => ?_)
  · refine lv_iconst (v := (-1)) (pc := 42) hx hb dX12_trade_42 (by decide) ?_
    have hF : F_X12_trade0 nv rP x y z = (-1 : Int32) := show F_X12_trade0 nv rP x y z = (-1 : Int32) from by rw [F_X12_trade0, if_pos c2]
    exact e_i (u := [(h0, .inr (12, (vs.set 0 (.int 0)))), (b6, .inl (g.2.1 1, 11, .inl rP))]) X hQ hr (hW) [1, 0] rfl rfl (⟨hF.symm, rfl⟩) ⟨Nat.le_of_ble_eq_true rfl, Nat.le_of_ble_eq_true rfl⟩ dX12_trade_43
  · have q13 := c2
    have hvx := rv_at (n := nv) (by omega) q13
    have hvx2 := hvx.2
    rw [hvx.1] at hl
    refine lv_aload_n (pc := 13) hx hb dX12_trade_13 rfl (lv_at hl 0 rfl) ?_
    refine r_get X hW 1 ciX12 6 rfl (by decide) m_1237 rfl (sv_ne (k := 0) (by decide) h6_) dX12_trade_14 ?_
    refine lv_iload_n (pc := 17) hx hb dX12_trade_17 rfl (lv_at hl 1 rfl) ?_
    refine r_iald X hW 0 rfl (vp_in_nI (by omega) (by decide)) dX12_trade_18 ?_
    refine lv_topi (fun v5 ev5 => ?_)
    obtain rfl : v5 = rP (tN x) := ev5.trans (by rw [nI_clamp (by omega)])
    refine lv_iconst (v := 4) (pc := 19) hx hb dX12_trade_19 (by decide) ?_
    refine lv_icmp_gt (tgt := 42) (pc := 20) hx hb dX12_trade_20 rfl (fun c6 => ?_) (fun c6 => ?_)
    · refine lv_iconst (v := (-1)) (pc := 42) hx hb dX12_trade_42 (by decide) ?_
      have hF : F_X12_trade0 nv rP x y z = (-1 : Int32) := show F_X12_trade0 nv rP x y z = (-1 : Int32) from by rw [F_X12_trade0, if_neg c2, if_pos c6]
      exact e_i (u := [(h0, .inr (12, (vs.set 0 (.int 0)))), (b6, .inl (g.2.1 1, 11, .inl rP))]) X hQ hr (hW) [1, 0] rfl rfl (⟨hF.symm, rfl⟩) ⟨Nat.le_of_ble_eq_true rfl, Nat.le_of_ble_eq_true rfl⟩ dX12_trade_43
    · have q23 := c6
      refine lv_iload_n (pc := 23) hx hb dX12_trade_23 rfl (lv_at hl 2 rfl) ?_
      refine lv_iconst (v := 1) (pc := 24) hx hb dX12_trade_24 (by decide) ?_
      refine lv_bipush (v := 8) (pc := 25) hx hb dX12_trade_25 (by decide) ?_
      refine c_Si (pc := 27) (As := [.int y, .int 1, .int 8]) (rest := []) (wr := [(b6, .inl (g.2.1 1, 11, .inl rP)), (h0, .inr (12, (vs.set 0 (.int 0))))]) X hW (K_X12_isIn l g y (1 : Int32) (8 : Int32)) vX12_198 [] [0, 1] rfl rfl rfl rfl rfl rfl hl.1 rfl (Nat.le_of_ble_eq_true rfl) ⟨Nat.le_of_ble_eq_true rfl, Nat.le_of_ble_eq_true rfl⟩ ⟨Nat.le_of_ble_eq_true rfl, Nat.le_of_ble_eq_true rfl⟩ dX12_trade_27 (fun r9 u9 H locs hq hW => ?_)
      obtain ⟨rfl, rfl⟩ := hq
      have hW : WD g A s _ _ [(b6, .inl (g.2.1 1, 11, .inl rP)), (h0, .inr (12, (vs.set 0 (.int 0))))] := hW
      refine lv_if_eq (tgt := 42) (pc := 30) hx hb dX12_trade_30 rfl (fun c10 => ?_) (fun c10 => ?_)
      · refine lv_iconst (v := (-1)) (pc := 42) hx hb dX12_trade_42 (by decide) ?_
        have hF : F_X12_trade0 nv rP x y z = (-1 : Int32) := show F_X12_trade0 nv rP x y z = (-1 : Int32) from by rw [F_X12_trade0, if_neg c2, if_neg c6, if_pos c10]
        exact e_i (u := [(h0, .inr (12, (vs.set 0 (.int 0)))), (b6, .inl (g.2.1 1, 11, .inl rP))]) X hQ hr (hW) [1, 0] rfl rfl (⟨hF.symm, rfl⟩) ⟨Nat.le_of_ble_eq_true rfl, Nat.le_of_ble_eq_true rfl⟩ dX12_trade_43
      · have q33 := c10
        refine lv_iload_n (pc := 33) hx hb dX12_trade_33 rfl (lv_at hl 3 rfl) ?_
        refine lv_iconst (v := 0) (pc := 34) hx hb dX12_trade_34 (by decide) ?_
        refine lv_iconst (v := 1) (pc := 35) hx hb dX12_trade_35 (by decide) ?_
        refine c_Si (pc := 36) (As := [.int z, .int 0, .int 1]) (rest := []) (wr := [(b6, .inl (g.2.1 1, 11, .inl rP)), (h0, .inr (12, (vs.set 0 (.int 0))))]) X hW (K_X12_isIn l g z (0 : Int32) (1 : Int32)) vX12_198 [] [0, 1] rfl rfl rfl rfl rfl rfl hl.1 rfl (Nat.le_of_ble_eq_true rfl) ⟨Nat.le_of_ble_eq_true rfl, Nat.le_of_ble_eq_true rfl⟩ ⟨Nat.le_of_ble_eq_true rfl, Nat.le_of_ble_eq_true rfl⟩ dX12_trade_36 (fun r13 u9 H locs hq hW => ?_)
        obtain ⟨rfl, rfl⟩ := hq
        have hW : WD g A s _ _ [(b6, .inl (g.2.1 1, 11, .inl rP)), (h0, .inr (12, (vs.set 0 (.int 0))))] := hW
        refine lv_if_ne (tgt := 44) (pc := 39) hx hb dX12_trade_39 rfl (fun c14 => ?_) (fun c14 => ?_)
        · exact False.elim (hbad.elim q13 fun q => q.elim q23 fun q => q.elim q33 c14)
        · refine lv_iconst (v := (-1)) (pc := 42) hx hb dX12_trade_42 (by decide) ?_
          have hF : F_X12_trade0 nv rP x y z = (-1 : Int32) := show F_X12_trade0 nv rP x y z = (-1 : Int32) from by rw [F_X12_trade0, if_neg c2, if_neg c6, if_neg c10, if_pos c14]
          exact e_i (u := [(h0, .inr (12, (vs.set 0 (.int 0)))), (b6, .inl (g.2.1 1, 11, .inl rP))]) X hQ hr (hW) [1, 0] rfl rfl (⟨hF.symm, rfl⟩) ⟨Nat.le_of_ble_eq_true rfl, Nat.le_of_ble_eq_true rfl⟩ dX12_trade_43

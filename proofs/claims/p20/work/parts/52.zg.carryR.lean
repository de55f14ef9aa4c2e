theorem dX12_tells_0 : decode cX12_tells 0 = .ok (.iload_n 3, 1) := DX12_tells _ _ _ rfl
theorem dX12_tells_1 : decode cX12_tells 1 = .ok (.aload_n 0, 1) := DX12_tells _ _ _ rfl
theorem dX12_tells_2 : decode cX12_tells 2 = .ok (.getfield 82, 3) := DX12_tells _ _ _ rfl
theorem dX12_tells_5 : decode cX12_tells 5 = .ok (.bipush 7, 2) := DX12_tells _ _ _ rfl
theorem dX12_tells_7 : decode cX12_tells 7 = .ok (.iload_n 2, 1) := DX12_tells _ _ _ rfl
theorem dX12_tells_8 : decode cX12_tells 8 = .ok (.iconst 1, 1) := DX12_tells _ _ _ rfl
theorem dX12_tells_9 : decode cX12_tells 9 = .ok (.isub, 1) := DX12_tells _ _ _ rfl
theorem dX12_tells_10 : decode cX12_tells 10 = .ok (.imul, 1) := DX12_tells _ _ _ rfl
theorem dX12_tells_11 : decode cX12_tells 11 = .ok (.iload 4, 2) := DX12_tells _ _ _ rfl
theorem dX12_tells_13 : decode cX12_tells 13 = .ok (.iadd, 1) := DX12_tells _ _ _ rfl
theorem dX12_tells_14 : decode cX12_tells 14 = .ok (.iaload, 1) := DX12_tells _ _ _ rfl
theorem dX12_tells_15 : decode cX12_tells 15 = .ok (.iconst (-1), 1) := DX12_tells _ _ _ rfl
theorem dX12_tells_16 : decode cX12_tells 16 = .ok (.ixor, 1) := DX12_tells _ _ _ rfl
theorem dX12_tells_17 : decode cX12_tells 17 = .ok (.iand, 1) := DX12_tells _ _ _ rfl
theorem dX12_tells_18 : decode cX12_tells 18 = .ok (.istore 5, 2) := DX12_tells _ _ _ rfl
theorem dX12_tells_20 : decode cX12_tells 20 = .ok (.aload_n 0, 1) := DX12_tells _ _ _ rfl
theorem dX12_tells_21 : decode cX12_tells 21 = .ok (.getfield 20, 3) := DX12_tells _ _ _ rfl
theorem dX12_tells_24 : decode cX12_tells 24 = .ok (.iload_n 1, 1) := DX12_tells _ _ _ rfl
theorem dX12_tells_25 : decode cX12_tells 25 = .ok (.iaload, 1) := DX12_tells _ _ _ rfl
theorem dX12_tells_26 : decode cX12_tells 26 = .ok (.iload 4, 2) := DX12_tells _ _ _ rfl
theorem dX12_tells_28 : decode cX12_tells 28 = .ok (.ishr, 1) := DX12_tells _ _ _ rfl
theorem dX12_tells_29 : decode cX12_tells 29 = .ok (.iconst 1, 1) := DX12_tells _ _ _ rfl
theorem dX12_tells_30 : decode cX12_tells 30 = .ok (.iand, 1) := DX12_tells _ _ _ rfl
theorem dX12_tells_31 : decode cX12_tells 31 = .ok (.ifCond .ne 16, 3) := DX12_tells _ _ _ rfl
theorem dX12_tells_47 : decode cX12_tells 47 = .ok (.aload_n 0, 1) := DX12_tells _ _ _ rfl
theorem dX12_tells_48 : decode cX12_tells 48 = .ok (.getfield 88, 3) := DX12_tells _ _ _ rfl
theorem dX12_tells_51 : decode cX12_tells 51 = .ok (.iload 4, 2) := DX12_tells _ _ _ rfl
theorem dX12_tells_53 : decode cX12_tells 53 = .ok (.dup2, 1) := DX12_tells _ _ _ rfl
theorem dX12_tells_54 : decode cX12_tells 54 = .ok (.iaload, 1) := DX12_tells _ _ _ rfl
theorem dX12_tells_55 : decode cX12_tells 55 = .ok (.iload 5, 2) := DX12_tells _ _ _ rfl
theorem dX12_tells_57 : decode cX12_tells 57 = .ok (.aload_n 0, 1) := DX12_tells _ _ _ rfl
theorem dX12_tells_58 : decode cX12_tells 58 = .ok (.getfield 85, 3) := DX12_tells _ _ _ rfl
theorem dX12_tells_61 : decode cX12_tells 61 = .ok (.bipush 7, 2) := DX12_tells _ _ _ rfl
theorem dX12_tells_63 : decode cX12_tells 63 = .ok (.iload_n 2, 1) := DX12_tells _ _ _ rfl
theorem dX12_tells_64 : decode cX12_tells 64 = .ok (.iconst 1, 1) := DX12_tells _ _ _ rfl
theorem dX12_tells_65 : decode cX12_tells 65 = .ok (.isub, 1) := DX12_tells _ _ _ rfl
theorem dX12_tells_66 : decode cX12_tells 66 = .ok (.imul, 1) := DX12_tells _ _ _ rfl
theorem dX12_tells_67 : decode cX12_tells 67 = .ok (.iload 4, 2) := DX12_tells _ _ _ rfl
theorem dX12_tells_69 : decode cX12_tells 69 = .ok (.iadd, 1) := DX12_tells _ _ _ rfl
theorem dX12_tells_70 : decode cX12_tells 70 = .ok (.iaload, 1) := DX12_tells _ _ _ rfl
theorem dX12_tells_71 : decode cX12_tells 71 = .ok (.aload_n 0, 1) := DX12_tells _ _ _ rfl
theorem dX12_tells_72 : decode cX12_tells 72 = .ok (.getfield 91, 3) := DX12_tells _ _ _ rfl
theorem dX12_tells_75 : decode cX12_tells 75 = .ok (.iload 4, 2) := DX12_tells _ _ _ rfl
theorem dX12_tells_77 : decode cX12_tells 77 = .ok (.iaload, 1) := DX12_tells _ _ _ rfl
theorem dX12_tells_78 : decode cX12_tells 78 = .ok (.ior, 1) := DX12_tells _ _ _ rfl
theorem dX12_tells_79 : decode cX12_tells 79 = .ok (.iand, 1) := DX12_tells _ _ _ rfl
theorem dX12_tells_80 : decode cX12_tells 80 = .ok (.ior, 1) := DX12_tells _ _ _ rfl
theorem dX12_tells_81 : decode cX12_tells 81 = .ok (.iastore, 1) := DX12_tells _ _ _ rfl
theorem dX12_tells_82 : decode cX12_tells 82 = .ok (.aload_n 0, 1) := DX12_tells _ _ _ rfl
theorem dX12_tells_83 : decode cX12_tells 83 = .ok (.getfield 91, 3) := DX12_tells _ _ _ rfl
theorem dX12_tells_86 : decode cX12_tells 86 = .ok (.iload 4, 2) := DX12_tells _ _ _ rfl
theorem dX12_tells_88 : decode cX12_tells 88 = .ok (.dup2, 1) := DX12_tells _ _ _ rfl
theorem dX12_tells_89 : decode cX12_tells 89 = .ok (.iaload, 1) := DX12_tells _ _ _ rfl
theorem dX12_tells_90 : decode cX12_tells 90 = .ok (.iload 5, 2) := DX12_tells _ _ _ rfl
theorem dX12_tells_92 : decode cX12_tells 92 = .ok (.ior, 1) := DX12_tells _ _ _ rfl
theorem dX12_tells_93 : decode cX12_tells 93 = .ok (.iastore, 1) := DX12_tells _ _ _ rfl
theorem dX12_tells_94 : decode cX12_tells 94 = .ok (.return_, 1) := DX12_tells _ _ _ rfl
theorem dX12_tells_34 : decode cX12_tells 34 = .ok (.aload_n 0, 1) := DX12_tells _ _ _ rfl
theorem dX12_tells_35 : decode cX12_tells 35 = .ok (.getfield 88, 3) := DX12_tells _ _ _ rfl
theorem dX12_tells_38 : decode cX12_tells 38 = .ok (.iload 4, 2) := DX12_tells _ _ _ rfl
theorem dX12_tells_40 : decode cX12_tells 40 = .ok (.dup2, 1) := DX12_tells _ _ _ rfl
theorem dX12_tells_41 : decode cX12_tells 41 = .ok (.iaload, 1) := DX12_tells _ _ _ rfl
theorem dX12_tells_42 : decode cX12_tells 42 = .ok (.iload 5, 2) := DX12_tells _ _ _ rfl
theorem dX12_tells_44 : decode cX12_tells 44 = .ok (.ior, 1) := DX12_tells _ _ _ rfl
theorem dX12_tells_45 : decode cX12_tells 45 = .ok (.iastore, 1) := DX12_tells _ _ _ rfl
theorem dX12_tells_46 : decode cX12_tells 46 = .ok (.return_, 1) := DX12_tells _ _ _ rfl
theorem dX12_notFor_0 : decode cX12_notFor 0 = .ok (.iconst 0, 1) := DX12_notFor _ _ _ rfl
theorem dX12_notFor_1 : decode cX12_notFor 1 = .ok (.istore_n 3, 1) := DX12_notFor _ _ _ rfl
theorem dX12_notFor_2 : decode cX12_notFor 2 = .ok (.iconst 0, 1) := DX12_notFor _ _ _ rfl
theorem dX12_notFor_3 : decode cX12_notFor 3 = .ok (.istore 4, 2) := DX12_notFor _ _ _ rfl
theorem dX12_notFor_5 : decode cX12_notFor 5 = .ok (.iload 4, 2) := DX12_notFor _ _ _ rfl
theorem dX12_notFor_7 : decode cX12_notFor 7 = .ok (.iconst 4, 1) := DX12_notFor _ _ _ rfl
theorem dX12_notFor_8 : decode cX12_notFor 8 = .ok (.if_icmp .ge 30, 3) := DX12_notFor _ _ _ rfl
theorem dX12_notFor_38 : decode cX12_notFor 38 = .ok (.iload_n 3, 1) := DX12_notFor _ _ _ rfl
theorem dX12_notFor_39 : decode cX12_notFor 39 = .ok (.ireturn, 1) := DX12_notFor _ _ _ rfl
theorem dX12_notFor_11 : decode cX12_notFor 11 = .ok (.iload_n 3, 1) := DX12_notFor _ _ _ rfl
theorem dX12_notFor_12 : decode cX12_notFor 12 = .ok (.aload_n 0, 1) := DX12_notFor _ _ _ rfl
theorem dX12_notFor_13 : decode cX12_notFor 13 = .ok (.getfield 29, 3) := DX12_notFor _ _ _ rfl
theorem dX12_notFor_16 : decode cX12_notFor 16 = .ok (.iconst 4, 1) := DX12_notFor _ _ _ rfl
theorem dX12_notFor_17 : decode cX12_notFor 17 = .ok (.iload_n 1, 1) := DX12_notFor _ _ _ rfl
theorem dX12_notFor_18 : decode cX12_notFor 18 = .ok (.imul, 1) := DX12_notFor _ _ _ rfl
theorem dX12_notFor_19 : decode cX12_notFor 19 = .ok (.iload 4, 2) := DX12_notFor _ _ _ rfl
theorem dX12_notFor_21 : decode cX12_notFor 21 = .ok (.iadd, 1) := DX12_notFor _ _ _ rfl
theorem dX12_notFor_22 : decode cX12_notFor 22 = .ok (.iaload, 1) := DX12_notFor _ _ _ rfl
theorem dX12_notFor_23 : decode cX12_notFor 23 = .ok (.iload_n 2, 1) := DX12_notFor _ _ _ rfl
theorem dX12_notFor_24 : decode cX12_notFor 24 = .ok (.ishr, 1) := DX12_notFor _ _ _ rfl
theorem dX12_notFor_25 : decode cX12_notFor 25 = .ok (.iconst 1, 1) := DX12_notFor _ _ _ rfl
theorem dX12_notFor_26 : decode cX12_notFor 26 = .ok (.iand, 1) := DX12_notFor _ _ _ rfl
theorem dX12_notFor_27 : decode cX12_notFor 27 = .ok (.iload 4, 2) := DX12_notFor _ _ _ rfl
theorem dX12_notFor_29 : decode cX12_notFor 29 = .ok (.ishl, 1) := DX12_notFor _ _ _ rfl
theorem dX12_notFor_30 : decode cX12_notFor 30 = .ok (.ior, 1) := DX12_notFor _ _ _ rfl
theorem dX12_notFor_31 : decode cX12_notFor 31 = .ok (.istore_n 3, 1) := DX12_notFor _ _ _ rfl
theorem dX12_notFor_32 : decode cX12_notFor 32 = .ok (.iinc 4 1, 3) := DX12_notFor _ _ _ rfl
theorem dX12_notFor_35 : decode cX12_notFor 35 = .ok (.goto (-30), 3) := DX12_notFor _ _ _ rfl
theorem dX12_carry_0 : decode cX12_carry 0 = .ok (.aload_n 0, 1) := DX12_carry _ _ _ rfl
theorem dX12_carry_1 : decode cX12_carry 1 = .ok (.getfield 58, 3) := DX12_carry _ _ _ rfl
theorem dX12_carry_4 : decode cX12_carry 4 = .ok (.iload_n 1, 1) := DX12_carry _ _ _ rfl
theorem dX12_carry_5 : decode cX12_carry 5 = .ok (.iaload, 1) := DX12_carry _ _ _ rfl
theorem dX12_carry_6 : decode cX12_carry 6 = .ok (.istore 5, 2) := DX12_carry _ _ _ rfl
theorem dX12_carry_8 : decode cX12_carry 8 = .ok (.iconst 0, 1) := DX12_carry _ _ _ rfl
theorem dX12_carry_9 : decode cX12_carry 9 = .ok (.istore 6, 2) := DX12_carry _ _ _ rfl
theorem dX12_carry_11 : decode cX12_carry 11 = .ok (.iload 6, 2) := DX12_carry _ _ _ rfl
theorem dX12_carry_13 : decode cX12_carry 13 = .ok (.aload_n 0, 1) := DX12_carry _ _ _ rfl
theorem dX12_carry_14 : decode cX12_carry 14 = .ok (.getfield 13, 3) := DX12_carry _ _ _ rfl
theorem dX12_carry_17 : decode cX12_carry 17 = .ok (.iload 5, 2) := DX12_carry _ _ _ rfl
theorem dX12_carry_19 : decode cX12_carry 19 = .ok (.iaload, 1) := DX12_carry _ _ _ rfl
theorem dX12_carry_20 : decode cX12_carry 20 = .ok (.if_icmp .ge 69, 3) := DX12_carry _ _ _ rfl
theorem dX12_carry_89 : decode cX12_carry 89 = .ok (.iconst 1, 1) := DX12_carry _ _ _ rfl
theorem dX12_carry_90 : decode cX12_carry 90 = .ok (.istore 6, 2) := DX12_carry _ _ _ rfl
theorem dX12_carry_92 : decode cX12_carry 92 = .ok (.iload 6, 2) := DX12_carry _ _ _ rfl
theorem dX12_carry_94 : decode cX12_carry 94 = .ok (.bipush 24, 2) := DX12_carry _ _ _ rfl
theorem dX12_carry_96 : decode cX12_carry 96 = .ok (.if_icmp .gt 387, 3) := DX12_carry _ _ _ rfl
theorem dX12_carry_483 : decode cX12_carry 483 = .ok (.return_, 1) := DX12_carry _ _ _ rfl
theorem dX12_carry_99 : decode cX12_carry 99 = .ok (.iconst 0, 1) := DX12_carry _ _ _ rfl
theorem dX12_carry_100 : decode cX12_carry 100 = .ok (.istore 7, 2) := DX12_carry _ _ _ rfl
theorem dX12_carry_102 : decode cX12_carry 102 = .ok (.iload 7, 2) := DX12_carry _ _ _ rfl
theorem dX12_carry_104 : decode cX12_carry 104 = .ok (.aload_n 0, 1) := DX12_carry _ _ _ rfl
theorem dX12_carry_105 : decode cX12_carry 105 = .ok (.getfield 13, 3) := DX12_carry _ _ _ rfl
theorem dX12_carry_108 : decode cX12_carry 108 = .ok (.iload 5, 2) := DX12_carry _ _ _ rfl
theorem dX12_carry_110 : decode cX12_carry 110 = .ok (.iaload, 1) := DX12_carry _ _ _ rfl
theorem dX12_carry_111 : decode cX12_carry 111 = .ok (.if_icmp .ge 25, 3) := DX12_carry _ _ _ rfl
theorem dX12_carry_136 : decode cX12_carry 136 = .ok (.iconst 0, 1) := DX12_carry _ _ _ rfl
theorem dX12_carry_137 : decode cX12_carry 137 = .ok (.istore 7, 2) := DX12_carry _ _ _ rfl
theorem dX12_carry_139 : decode cX12_carry 139 = .ok (.iload 7, 2) := DX12_carry _ _ _ rfl
theorem dX12_carry_141 : decode cX12_carry 141 = .ok (.aload_n 0, 1) := DX12_carry _ _ _ rfl
theorem dX12_carry_142 : decode cX12_carry 142 = .ok (.getfield 61, 3) := DX12_carry _ _ _ rfl
theorem dX12_carry_145 : decode cX12_carry 145 = .ok (.iload_n 1, 1) := DX12_carry _ _ _ rfl
theorem dX12_carry_146 : decode cX12_carry 146 = .ok (.iaload, 1) := DX12_carry _ _ _ rfl
theorem dX12_carry_147 : decode cX12_carry 147 = .ok (.if_icmp .ge 241, 3) := DX12_carry _ _ _ rfl
theorem dX12_carry_388 : decode cX12_carry 388 = .ok (.iconst 0, 1) := DX12_carry _ _ _ rfl
theorem dX12_carry_389 : decode cX12_carry 389 = .ok (.istore 7, 2) := DX12_carry _ _ _ rfl
theorem dX12_carry_391 : decode cX12_carry 391 = .ok (.iload 7, 2) := DX12_carry _ _ _ rfl
theorem dX12_carry_393 : decode cX12_carry 393 = .ok (.aload_n 0, 1) := DX12_carry _ _ _ rfl
theorem dX12_carry_394 : decode cX12_carry 394 = .ok (.getfield 13, 3) := DX12_carry _ _ _ rfl
theorem dX12_carry_397 : decode cX12_carry 397 = .ok (.iload 5, 2) := DX12_carry _ _ _ rfl
theorem dX12_carry_399 : decode cX12_carry 399 = .ok (.iaload, 1) := DX12_carry _ _ _ rfl
theorem dX12_carry_400 : decode cX12_carry 400 = .ok (.if_icmp .ge 77, 3) := DX12_carry _ _ _ rfl
theorem dX12_carry_477 : decode cX12_carry 477 = .ok (.iinc 6 1, 3) := DX12_carry _ _ _ rfl
theorem dX12_carry_480 : decode cX12_carry 480 = .ok (.goto (-388), 3) := DX12_carry _ _ _ rfl
theorem dX12_carry_403 : decode cX12_carry 403 = .ok (.bipush 7, 2) := DX12_carry _ _ _ rfl
theorem dX12_carry_405 : decode cX12_carry 405 = .ok (.iload 6, 2) := DX12_carry _ _ _ rfl
theorem dX12_carry_407 : decode cX12_carry 407 = .ok (.iconst 1, 1) := DX12_carry _ _ _ rfl
theorem dX12_carry_408 : decode cX12_carry 408 = .ok (.isub, 1) := DX12_carry _ _ _ rfl
theorem dX12_carry_409 : decode cX12_carry 409 = .ok (.imul, 1) := DX12_carry _ _ _ rfl
theorem dX12_carry_410 : decode cX12_carry 410 = .ok (.iload 7, 2) := DX12_carry _ _ _ rfl
theorem dX12_carry_412 : decode cX12_carry 412 = .ok (.iadd, 1) := DX12_carry _ _ _ rfl
theorem dX12_carry_413 : decode cX12_carry 413 = .ok (.istore 8, 2) := DX12_carry _ _ _ rfl
theorem dX12_carry_415 : decode cX12_carry 415 = .ok (.aload_n 0, 1) := DX12_carry _ _ _ rfl
theorem dX12_carry_416 : decode cX12_carry 416 = .ok (.getfield 82, 3) := DX12_carry _ _ _ rfl
theorem dX12_carry_419 : decode cX12_carry 419 = .ok (.bipush 7, 2) := DX12_carry _ _ _ rfl
theorem dX12_carry_421 : decode cX12_carry 421 = .ok (.iload 6, 2) := DX12_carry _ _ _ rfl
theorem dX12_carry_423 : decode cX12_carry 423 = .ok (.imul, 1) := DX12_carry _ _ _ rfl
theorem dX12_carry_424 : decode cX12_carry 424 = .ok (.iload 7, 2) := DX12_carry _ _ _ rfl
theorem dX12_carry_426 : decode cX12_carry 426 = .ok (.iadd, 1) := DX12_carry _ _ _ rfl
theorem dX12_carry_427 : decode cX12_carry 427 = .ok (.aload_n 0, 1) := DX12_carry _ _ _ rfl
theorem dX12_carry_428 : decode cX12_carry 428 = .ok (.getfield 82, 3) := DX12_carry _ _ _ rfl
theorem dX12_carry_431 : decode cX12_carry 431 = .ok (.iload 8, 2) := DX12_carry _ _ _ rfl
theorem dX12_carry_433 : decode cX12_carry 433 = .ok (.iaload, 1) := DX12_carry _ _ _ rfl
theorem dX12_carry_434 : decode cX12_carry 434 = .ok (.aload_n 0, 1) := DX12_carry _ _ _ rfl
theorem dX12_carry_435 : decode cX12_carry 435 = .ok (.getfield 88, 3) := DX12_carry _ _ _ rfl
theorem dX12_carry_438 : decode cX12_carry 438 = .ok (.iload 7, 2) := DX12_carry _ _ _ rfl
theorem dX12_carry_440 : decode cX12_carry 440 = .ok (.iaload, 1) := DX12_carry _ _ _ rfl
theorem dX12_carry_441 : decode cX12_carry 441 = .ok (.ior, 1) := DX12_carry _ _ _ rfl
theorem dX12_carry_442 : decode cX12_carry 442 = .ok (.iastore, 1) := DX12_carry _ _ _ rfl
theorem dX12_carry_443 : decode cX12_carry 443 = .ok (.aload_n 0, 1) := DX12_carry _ _ _ rfl
theorem dX12_carry_444 : decode cX12_carry 444 = .ok (.getfield 85, 3) := DX12_carry _ _ _ rfl
theorem dX12_carry_447 : decode cX12_carry 447 = .ok (.bipush 7, 2) := DX12_carry _ _ _ rfl
theorem dX12_carry_449 : decode cX12_carry 449 = .ok (.iload 6, 2) := DX12_carry _ _ _ rfl
theorem dX12_carry_451 : decode cX12_carry 451 = .ok (.imul, 1) := DX12_carry _ _ _ rfl
theorem dX12_carry_452 : decode cX12_carry 452 = .ok (.iload 7, 2) := DX12_carry _ _ _ rfl
theorem dX12_carry_454 : decode cX12_carry 454 = .ok (.iadd, 1) := DX12_carry _ _ _ rfl
theorem dX12_carry_455 : decode cX12_carry 455 = .ok (.aload_n 0, 1) := DX12_carry _ _ _ rfl
theorem dX12_carry_456 : decode cX12_carry 456 = .ok (.getfield 85, 3) := DX12_carry _ _ _ rfl
theorem dX12_carry_459 : decode cX12_carry 459 = .ok (.iload 8, 2) := DX12_carry _ _ _ rfl
theorem dX12_carry_461 : decode cX12_carry 461 = .ok (.iaload, 1) := DX12_carry _ _ _ rfl
theorem dX12_carry_462 : decode cX12_carry 462 = .ok (.aload_n 0, 1) := DX12_carry _ _ _ rfl
theorem dX12_carry_463 : decode cX12_carry 463 = .ok (.getfield 91, 3) := DX12_carry _ _ _ rfl
theorem dX12_carry_466 : decode cX12_carry 466 = .ok (.iload 7, 2) := DX12_carry _ _ _ rfl
theorem dX12_carry_468 : decode cX12_carry 468 = .ok (.iaload, 1) := DX12_carry _ _ _ rfl
theorem dX12_carry_469 : decode cX12_carry 469 = .ok (.ior, 1) := DX12_carry _ _ _ rfl
theorem dX12_carry_470 : decode cX12_carry 470 = .ok (.iastore, 1) := DX12_carry _ _ _ rfl
theorem dX12_carry_471 : decode cX12_carry 471 = .ok (.iinc 7 1, 3) := DX12_carry _ _ _ rfl
theorem dX12_carry_474 : decode cX12_carry 474 = .ok (.goto (-83), 3) := DX12_carry _ _ _ rfl
theorem dX12_carry_150 : decode cX12_carry 150 = .ok (.bipush 40, 2) := DX12_carry _ _ _ rfl
theorem dX12_carry_152 : decode cX12_carry 152 = .ok (.iload_n 1, 1) := DX12_carry _ _ _ rfl
theorem dX12_carry_153 : decode cX12_carry 153 = .ok (.imul, 1) := DX12_carry _ _ _ rfl
theorem dX12_carry_154 : decode cX12_carry 154 = .ok (.iload 7, 2) := DX12_carry _ _ _ rfl
theorem dX12_carry_156 : decode cX12_carry 156 = .ok (.iadd, 1) := DX12_carry _ _ _ rfl
theorem dX12_carry_157 : decode cX12_carry 157 = .ok (.istore 8, 2) := DX12_carry _ _ _ rfl
theorem dX12_carry_159 : decode cX12_carry 159 = .ok (.aload_n 0, 1) := DX12_carry _ _ _ rfl
theorem dX12_carry_160 : decode cX12_carry 160 = .ok (.getfield 64, 3) := DX12_carry _ _ _ rfl
theorem dX12_carry_163 : decode cX12_carry 163 = .ok (.iload 8, 2) := DX12_carry _ _ _ rfl
theorem dX12_carry_165 : decode cX12_carry 165 = .ok (.iaload, 1) := DX12_carry _ _ _ rfl
theorem dX12_carry_166 : decode cX12_carry 166 = .ok (.iload 6, 2) := DX12_carry _ _ _ rfl
theorem dX12_carry_168 : decode cX12_carry 168 = .ok (.if_icmp .ne 214, 3) := DX12_carry _ _ _ rfl
theorem dX12_carry_382 : decode cX12_carry 382 = .ok (.iinc 7 1, 3) := DX12_carry _ _ _ rfl
theorem dX12_carry_385 : decode cX12_carry 385 = .ok (.goto (-246), 3) := DX12_carry _ _ _ rfl
theorem dX12_carry_171 : decode cX12_carry 171 = .ok (.aload_n 0, 1) := DX12_carry _ _ _ rfl
theorem dX12_carry_172 : decode cX12_carry 172 = .ok (.getfield 76, 3) := DX12_carry _ _ _ rfl
theorem dX12_carry_175 : decode cX12_carry 175 = .ok (.iload 7, 2) := DX12_carry _ _ _ rfl
theorem dX12_carry_177 : decode cX12_carry 177 = .ok (.iaload, 1) := DX12_carry _ _ _ rfl
theorem dX12_carry_178 : decode cX12_carry 178 = .ok (.ifCond .ne 204, 3) := DX12_carry _ _ _ rfl
theorem dX12_carry_181 : decode cX12_carry 181 = .ok (.lload_n 2, 1) := DX12_carry _ _ _ rfl
theorem dX12_carry_182 : decode cX12_carry 182 = .ok (.iload 7, 2) := DX12_carry _ _ _ rfl
theorem dX12_carry_184 : decode cX12_carry 184 = .ok (.lshr, 1) := DX12_carry _ _ _ rfl
theorem dX12_carry_185 : decode cX12_carry 185 = .ok (.lconst 1, 1) := DX12_carry _ _ _ rfl
theorem dX12_carry_186 : decode cX12_carry 186 = .ok (.land, 1) := DX12_carry _ _ _ rfl
theorem dX12_carry_187 : decode cX12_carry 187 = .ok (.lconst 1, 1) := DX12_carry _ _ _ rfl
theorem dX12_carry_188 : decode cX12_carry 188 = .ok (.lcmp, 1) := DX12_carry _ _ _ rfl
theorem dX12_carry_189 : decode cX12_carry 189 = .ok (.ifCond .eq 193, 3) := DX12_carry _ _ _ rfl
theorem dX12_carry_192 : decode cX12_carry 192 = .ok (.aload_n 0, 1) := DX12_carry _ _ _ rfl
theorem dX12_carry_193 : decode cX12_carry 193 = .ok (.getfield 70, 3) := DX12_carry _ _ _ rfl
theorem dX12_carry_196 : decode cX12_carry 196 = .ok (.iload 8, 2) := DX12_carry _ _ _ rfl
theorem dX12_carry_198 : decode cX12_carry 198 = .ok (.iaload, 1) := DX12_carry _ _ _ rfl
theorem dX12_carry_199 : decode cX12_carry 199 = .ok (.iload 4, 2) := DX12_carry _ _ _ rfl
theorem dX12_carry_201 : decode cX12_carry 201 = .ok (.if_icmp .ne 6, 3) := DX12_carry _ _ _ rfl
theorem dX12_carry_207 : decode cX12_carry 207 = .ok (.aload_n 0, 1) := DX12_carry _ _ _ rfl
theorem dX12_carry_208 : decode cX12_carry 208 = .ok (.getfield 70, 3) := DX12_carry _ _ _ rfl
theorem dX12_carry_211 : decode cX12_carry 211 = .ok (.iload 8, 2) := DX12_carry _ _ _ rfl
theorem dX12_carry_213 : decode cX12_carry 213 = .ok (.iaload, 1) := DX12_carry _ _ _ rfl
theorem dX12_carry_214 : decode cX12_carry 214 = .ok (.istore 9, 2) := DX12_carry _ _ _ rfl
theorem dX12_carry_216 : decode cX12_carry 216 = .ok (.aload_n 0, 1) := DX12_carry _ _ _ rfl
theorem dX12_carry_217 : decode cX12_carry 217 = .ok (.getfield 82, 3) := DX12_carry _ _ _ rfl
theorem dX12_carry_220 : decode cX12_carry 220 = .ok (.bipush 7, 2) := DX12_carry _ _ _ rfl
theorem dX12_carry_222 : decode cX12_carry 222 = .ok (.iload 6, 2) := DX12_carry _ _ _ rfl
theorem dX12_carry_224 : decode cX12_carry 224 = .ok (.iconst 1, 1) := DX12_carry _ _ _ rfl
theorem dX12_carry_225 : decode cX12_carry 225 = .ok (.isub, 1) := DX12_carry _ _ _ rfl
theorem dX12_carry_226 : decode cX12_carry 226 = .ok (.imul, 1) := DX12_carry _ _ _ rfl
theorem dX12_carry_227 : decode cX12_carry 227 = .ok (.iload 9, 2) := DX12_carry _ _ _ rfl
theorem dX12_carry_229 : decode cX12_carry 229 = .ok (.iadd, 1) := DX12_carry _ _ _ rfl
theorem dX12_carry_230 : decode cX12_carry 230 = .ok (.iaload, 1) := DX12_carry _ _ _ rfl
theorem dX12_carry_231 : decode cX12_carry 231 = .ok (.istore 10, 2) := DX12_carry _ _ _ rfl
theorem dX12_carry_233 : decode cX12_carry 233 = .ok (.iconst 0, 1) := DX12_carry _ _ _ rfl
theorem dX12_carry_234 : decode cX12_carry 234 = .ok (.istore 11, 2) := DX12_carry _ _ _ rfl
theorem dX12_carry_236 : decode cX12_carry 236 = .ok (.iload 11, 2) := DX12_carry _ _ _ rfl
theorem dX12_carry_238 : decode cX12_carry 238 = .ok (.aload_n 0, 1) := DX12_carry _ _ _ rfl
theorem dX12_carry_239 : decode cX12_carry 239 = .ok (.getfield 13, 3) := DX12_carry _ _ _ rfl
theorem dX12_carry_242 : decode cX12_carry 242 = .ok (.iload 5, 2) := DX12_carry _ _ _ rfl
theorem dX12_carry_244 : decode cX12_carry 244 = .ok (.iaload, 1) := DX12_carry _ _ _ rfl
theorem dX12_carry_245 : decode cX12_carry 245 = .ok (.if_icmp .ge 137, 3) := DX12_carry _ _ _ rfl
theorem dX12_carry_248 : decode cX12_carry 248 = .ok (.aload_n 0, 1) := DX12_carry _ _ _ rfl
theorem dX12_carry_249 : decode cX12_carry 249 = .ok (.getfield 79, 3) := DX12_carry _ _ _ rfl
theorem dX12_carry_252 : decode cX12_carry 252 = .ok (.iload 7, 2) := DX12_carry _ _ _ rfl
theorem dX12_carry_254 : decode cX12_carry 254 = .ok (.iaload, 1) := DX12_carry _ _ _ rfl
theorem dX12_carry_255 : decode cX12_carry 255 = .ok (.iload 11, 2) := DX12_carry _ _ _ rfl
theorem dX12_carry_257 : decode cX12_carry 257 = .ok (.ishr, 1) := DX12_carry _ _ _ rfl
theorem dX12_carry_258 : decode cX12_carry 258 = .ok (.iconst 1, 1) := DX12_carry _ _ _ rfl
theorem dX12_carry_259 : decode cX12_carry 259 = .ok (.iand, 1) := DX12_carry _ _ _ rfl
theorem dX12_carry_260 : decode cX12_carry 260 = .ok (.ifCond .eq 116, 3) := DX12_carry _ _ _ rfl
theorem dX12_carry_376 : decode cX12_carry 376 = .ok (.iinc 11 1, 3) := DX12_carry _ _ _ rfl
theorem dX12_carry_379 : decode cX12_carry 379 = .ok (.goto (-143), 3) := DX12_carry _ _ _ rfl
theorem dX12_carry_263 : decode cX12_carry 263 = .ok (.iload 11, 2) := DX12_carry _ _ _ rfl
theorem dX12_carry_265 : decode cX12_carry 265 = .ok (.iload 4, 2) := DX12_carry _ _ _ rfl
theorem dX12_carry_267 : decode cX12_carry 267 = .ok (.if_icmp .ne 6, 3) := DX12_carry _ _ _ rfl
theorem dX12_carry_273 : decode cX12_carry 273 = .ok (.aload_n 0, 1) := DX12_carry _ _ _ rfl
theorem dX12_carry_274 : decode cX12_carry 274 = .ok (.getfield 67, 3) := DX12_carry _ _ _ rfl
theorem dX12_carry_277 : decode cX12_carry 277 = .ok (.iload 8, 2) := DX12_carry _ _ _ rfl
theorem dX12_carry_279 : decode cX12_carry 279 = .ok (.iaload, 1) := DX12_carry _ _ _ rfl
theorem dX12_carry_280 : decode cX12_carry 280 = .ok (.istore 12, 2) := DX12_carry _ _ _ rfl
theorem dX12_carry_282 : decode cX12_carry 282 = .ok (.iload 12, 2) := DX12_carry _ _ _ rfl
theorem dX12_carry_284 : decode cX12_carry 284 = .ok (.ifCond .eq 15, 3) := DX12_carry _ _ _ rfl
theorem dX12_carry_299 : decode cX12_carry 299 = .ok (.aload_n 0, 1) := DX12_carry _ _ _ rfl
theorem dX12_carry_300 : decode cX12_carry 300 = .ok (.iload 5, 2) := DX12_carry _ _ _ rfl
theorem dX12_carry_302 : decode cX12_carry 302 = .ok (.iload 6, 2) := DX12_carry _ _ _ rfl
theorem dX12_carry_304 : decode cX12_carry 304 = .ok (.iload 10, 2) := DX12_carry _ _ _ rfl
theorem dX12_carry_306 : decode cX12_carry 306 = .ok (.iload 11, 2) := DX12_carry _ _ _ rfl
theorem dX12_carry_308 : decode cX12_carry 308 = .ok (.invokevirtual 260, 3) := DX12_carry _ _ _ rfl
theorem dX12_carry_311 : decode cX12_carry 311 = .ok (.iload 12, 2) := DX12_carry _ _ _ rfl
theorem dX12_carry_313 : decode cX12_carry 313 = .ok (.ifCond .eq 9, 3) := DX12_carry _ _ _ rfl
theorem dX12_carry_322 : decode cX12_carry 322 = .ok (.aload_n 0, 1) := DX12_carry _ _ _ rfl
theorem dX12_carry_323 : decode cX12_carry 323 = .ok (.iload 5, 2) := DX12_carry _ _ _ rfl
theorem dX12_carry_325 : decode cX12_carry 325 = .ok (.iload 6, 2) := DX12_carry _ _ _ rfl
theorem dX12_carry_327 : decode cX12_carry 327 = .ok (.aload_n 0, 1) := DX12_carry _ _ _ rfl
theorem dX12_carry_328 : decode cX12_carry 328 = .ok (.getfield 82, 3) := DX12_carry _ _ _ rfl
theorem dX12_carry_331 : decode cX12_carry 331 = .ok (.bipush 7, 2) := DX12_carry _ _ _ rfl
theorem dX12_carry_333 : decode cX12_carry 333 = .ok (.iload 6, 2) := DX12_carry _ _ _ rfl
theorem dX12_carry_335 : decode cX12_carry 335 = .ok (.iconst 1, 1) := DX12_carry _ _ _ rfl
theorem dX12_carry_336 : decode cX12_carry 336 = .ok (.isub, 1) := DX12_carry _ _ _ rfl
theorem dX12_carry_337 : decode cX12_carry 337 = .ok (.imul, 1) := DX12_carry _ _ _ rfl
theorem dX12_carry_338 : decode cX12_carry 338 = .ok (.iload 11, 2) := DX12_carry _ _ _ rfl
theorem dX12_carry_340 : decode cX12_carry 340 = .ok (.iadd, 1) := DX12_carry _ _ _ rfl
theorem dX12_carry_341 : decode cX12_carry 341 = .ok (.iaload, 1) := DX12_carry _ _ _ rfl
theorem dX12_carry_342 : decode cX12_carry 342 = .ok (.iload 9, 2) := DX12_carry _ _ _ rfl
theorem dX12_carry_344 : decode cX12_carry 344 = .ok (.invokevirtual 260, 3) := DX12_carry _ _ _ rfl
theorem dX12_carry_347 : decode cX12_carry 347 = .ok (.iload 12, 2) := DX12_carry _ _ _ rfl
theorem dX12_carry_349 : decode cX12_carry 349 = .ok (.iconst 4, 1) := DX12_carry _ _ _ rfl
theorem dX12_carry_350 : decode cX12_carry 350 = .ok (.if_icmp .ne 26, 3) := DX12_carry _ _ _ rfl
theorem dX12_carry_287 : decode cX12_carry 287 = .ok (.iload 12, 2) := DX12_carry _ _ _ rfl
theorem dX12_carry_289 : decode cX12_carry 289 = .ok (.iconst 1, 1) := DX12_carry _ _ _ rfl
theorem dX12_carry_290 : decode cX12_carry 290 = .ok (.if_icmp .eq 9, 3) := DX12_carry _ _ _ rfl
theorem dX12_carry_316 : decode cX12_carry 316 = .ok (.iload 12, 2) := DX12_carry _ _ _ rfl
theorem dX12_carry_318 : decode cX12_carry 318 = .ok (.iconst 2, 1) := DX12_carry _ _ _ rfl
theorem dX12_carry_319 : decode cX12_carry 319 = .ok (.if_icmp .ne 28, 3) := DX12_carry _ _ _ rfl
theorem dX12_carry_293 : decode cX12_carry 293 = .ok (.iload 12, 2) := DX12_carry _ _ _ rfl
theorem dX12_carry_295 : decode cX12_carry 295 = .ok (.iconst 3, 1) := DX12_carry _ _ _ rfl
theorem dX12_carry_296 : decode cX12_carry 296 = .ok (.if_icmp .ne 15, 3) := DX12_carry _ _ _ rfl
theorem dX12_carry_353 : decode cX12_carry 353 = .ok (.aload_n 0, 1) := DX12_carry _ _ _ rfl
theorem dX12_carry_354 : decode cX12_carry 354 = .ok (.iload 5, 2) := DX12_carry _ _ _ rfl
theorem dX12_carry_356 : decode cX12_carry 356 = .ok (.iload 6, 2) := DX12_carry _ _ _ rfl
theorem dX12_carry_358 : decode cX12_carry 358 = .ok (.iload 10, 2) := DX12_carry _ _ _ rfl
theorem dX12_carry_360 : decode cX12_carry 360 = .ok (.aload_n 0, 1) := DX12_carry _ _ _ rfl
theorem dX12_carry_361 : decode cX12_carry 361 = .ok (.iload 5, 2) := DX12_carry _ _ _ rfl
theorem dX12_carry_363 : decode cX12_carry 363 = .ok (.iload 11, 2) := DX12_carry _ _ _ rfl
theorem dX12_carry_365 : decode cX12_carry 365 = .ok (.invokevirtual 264, 3) := DX12_carry _ _ _ rfl
theorem dX12_carry_368 : decode cX12_carry 368 = .ok (.iconst (-1), 1) := DX12_carry _ _ _ rfl
theorem dX12_carry_369 : decode cX12_carry 369 = .ok (.ixor, 1) := DX12_carry _ _ _ rfl
theorem dX12_carry_370 : decode cX12_carry 370 = .ok (.iand, 1) := DX12_carry _ _ _ rfl
theorem dX12_carry_371 : decode cX12_carry 371 = .ok (.iload 11, 2) := DX12_carry _ _ _ rfl
theorem dX12_carry_373 : decode cX12_carry 373 = .ok (.invokevirtual 260, 3) := DX12_carry _ _ _ rfl
theorem dX12_carry_270 : decode cX12_carry 270 = .ok (.goto 106, 3) := DX12_carry _ _ _ rfl
theorem dX12_carry_204 : decode cX12_carry 204 = .ok (.goto 178, 3) := DX12_carry _ _ _ rfl
theorem dX12_carry_114 : decode cX12_carry 114 = .ok (.aload_n 0, 1) := DX12_carry _ _ _ rfl
theorem dX12_carry_115 : decode cX12_carry 115 = .ok (.getfield 88, 3) := DX12_carry _ _ _ rfl
theorem dX12_carry_118 : decode cX12_carry 118 = .ok (.iload 7, 2) := DX12_carry _ _ _ rfl
theorem dX12_carry_120 : decode cX12_carry 120 = .ok (.iconst 0, 1) := DX12_carry _ _ _ rfl
theorem dX12_carry_121 : decode cX12_carry 121 = .ok (.iastore, 1) := DX12_carry _ _ _ rfl
theorem dX12_carry_122 : decode cX12_carry 122 = .ok (.aload_n 0, 1) := DX12_carry _ _ _ rfl
theorem dX12_carry_123 : decode cX12_carry 123 = .ok (.getfield 91, 3) := DX12_carry _ _ _ rfl
theorem dX12_carry_126 : decode cX12_carry 126 = .ok (.iload 7, 2) := DX12_carry _ _ _ rfl
theorem dX12_carry_128 : decode cX12_carry 128 = .ok (.iconst 0, 1) := DX12_carry _ _ _ rfl
theorem dX12_carry_129 : decode cX12_carry 129 = .ok (.iastore, 1) := DX12_carry _ _ _ rfl
theorem dX12_carry_130 : decode cX12_carry 130 = .ok (.iinc 7 1, 3) := DX12_carry _ _ _ rfl
theorem dX12_carry_133 : decode cX12_carry 133 = .ok (.goto (-31), 3) := DX12_carry _ _ _ rfl
theorem dX12_carry_23 : decode cX12_carry 23 = .ok (.iconst 0, 1) := DX12_carry _ _ _ rfl
theorem dX12_carry_24 : decode cX12_carry 24 = .ok (.istore 7, 2) := DX12_carry _ _ _ rfl
theorem dX12_carry_26 : decode cX12_carry 26 = .ok (.iconst 0, 1) := DX12_carry _ _ _ rfl
theorem dX12_carry_27 : decode cX12_carry 27 = .ok (.istore 8, 2) := DX12_carry _ _ _ rfl
theorem dX12_carry_29 : decode cX12_carry 29 = .ok (.iload 8, 2) := DX12_carry _ _ _ rfl
theorem dX12_carry_31 : decode cX12_carry 31 = .ok (.iconst 4, 1) := DX12_carry _ _ _ rfl
theorem dX12_carry_32 : decode cX12_carry 32 = .ok (.if_icmp .ge 34, 3) := DX12_carry _ _ _ rfl
theorem dX12_carry_66 : decode cX12_carry 66 = .ok (.aload_n 0, 1) := DX12_carry _ _ _ rfl
theorem dX12_carry_67 : decode cX12_carry 67 = .ok (.getfield 82, 3) := DX12_carry _ _ _ rfl
theorem dX12_carry_70 : decode cX12_carry 70 = .ok (.iload 6, 2) := DX12_carry _ _ _ rfl
theorem dX12_carry_72 : decode cX12_carry 72 = .ok (.iload 7, 2) := DX12_carry _ _ _ rfl
theorem dX12_carry_74 : decode cX12_carry 74 = .ok (.iastore, 1) := DX12_carry _ _ _ rfl
theorem dX12_carry_75 : decode cX12_carry 75 = .ok (.aload_n 0, 1) := DX12_carry _ _ _ rfl
theorem dX12_carry_76 : decode cX12_carry 76 = .ok (.getfield 85, 3) := DX12_carry _ _ _ rfl
theorem dX12_carry_79 : decode cX12_carry 79 = .ok (.iload 6, 2) := DX12_carry _ _ _ rfl
theorem dX12_carry_81 : decode cX12_carry 81 = .ok (.iconst 0, 1) := DX12_carry _ _ _ rfl
theorem dX12_carry_82 : decode cX12_carry 82 = .ok (.iastore, 1) := DX12_carry _ _ _ rfl
theorem dX12_carry_83 : decode cX12_carry 83 = .ok (.iinc 6 1, 3) := DX12_carry _ _ _ rfl
theorem dX12_carry_86 : decode cX12_carry 86 = .ok (.goto (-75), 3) := DX12_carry _ _ _ rfl
theorem dX12_carry_35 : decode cX12_carry 35 = .ok (.iload 7, 2) := DX12_carry _ _ _ rfl
theorem dX12_carry_37 : decode cX12_carry 37 = .ok (.aload_n 0, 1) := DX12_carry _ _ _ rfl
theorem dX12_carry_38 : decode cX12_carry 38 = .ok (.getfield 23, 3) := DX12_carry _ _ _ rfl
theorem dX12_carry_41 : decode cX12_carry 41 = .ok (.iconst 4, 1) := DX12_carry _ _ _ rfl
theorem dX12_carry_42 : decode cX12_carry 42 = .ok (.iload 5, 2) := DX12_carry _ _ _ rfl
theorem dX12_carry_44 : decode cX12_carry 44 = .ok (.imul, 1) := DX12_carry _ _ _ rfl
theorem dX12_carry_45 : decode cX12_carry 45 = .ok (.iload 8, 2) := DX12_carry _ _ _ rfl
theorem dX12_carry_47 : decode cX12_carry 47 = .ok (.iadd, 1) := DX12_carry _ _ _ rfl
theorem dX12_carry_48 : decode cX12_carry 48 = .ok (.iaload, 1) := DX12_carry _ _ _ rfl
theorem dX12_carry_49 : decode cX12_carry 49 = .ok (.iload 6, 2) := DX12_carry _ _ _ rfl
theorem dX12_carry_51 : decode cX12_carry 51 = .ok (.ishr, 1) := DX12_carry _ _ _ rfl
theorem dX12_carry_52 : decode cX12_carry 52 = .ok (.iconst 1, 1) := DX12_carry _ _ _ rfl
theorem dX12_carry_53 : decode cX12_carry 53 = .ok (.iand, 1) := DX12_carry _ _ _ rfl
theorem dX12_carry_54 : decode cX12_carry 54 = .ok (.iload 8, 2) := DX12_carry _ _ _ rfl
theorem dX12_carry_56 : decode cX12_carry 56 = .ok (.ishl, 1) := DX12_carry _ _ _ rfl
theorem dX12_carry_57 : decode cX12_carry 57 = .ok (.ior, 1) := DX12_carry _ _ _ rfl
theorem dX12_carry_58 : decode cX12_carry 58 = .ok (.istore 7, 2) := DX12_carry _ _ _ rfl
theorem dX12_carry_60 : decode cX12_carry 60 = .ok (.iinc 8 1, 3) := DX12_carry _ _ _ rfl
theorem dX12_carry_63 : decode cX12_carry 63 = .ok (.goto (-34), 3) := DX12_carry _ _ _ rfl
def F_X12_tells (rD : Nat → Int32) (aF : Nat → Int32) (oN : Nat → Int32) (fR : Nat → Int32) (tW : Nat → Int32) (v9 : Nat) (uh : Nat) (nw : Int32) (to : Nat) : (Nat → Int32) × (Nat → Int32) := if ((rD v9) >>> ((nI to) &&& 31)) &&& (1 : Int32) = 0 then (((upd fR to ((fR to) ||| (nw &&& ((aF (7 * (uh + 1 - 1) + to)) ^^^ (-1 : Int32))))), tW)) else (((upd fR to ((fR to) ||| ((nw &&& ((aF (7 * (uh + 1 - 1) + to)) ^^^ (-1 : Int32))) &&& ((oN (7 * (uh + 1 - 1) + to)) ||| (tW to))))), (upd tW to ((tW to) ||| (nw &&& ((aF (7 * (uh + 1 - 1) + to)) ^^^ (-1 : Int32)))))))
set_option maxHeartbeats 4000000 in
set_option maxRecDepth 100000 in
theorem K_X12_tells (l : Launch) (g : GG) (h0 : Nat) (vs : List Value) (b8 : Nat) (rD : Nat → Int32) (b30 : Nat) (aF : Nat → Int32) (b31 : Nat) (oN : Nat → Int32) (b32 : Nat) (fR : Nat → Int32) (b33 : Nat) (tW : Nat → Int32) (v9 : Nat) (uh : Nat) (nw : Int32) (to : Nat) (hlen : vs.length = 64) (h8_ : vs[8]? = some (.ref b8)) (h30_ : vs[30]? = some (.ref b30)) (h31_ : vs[31]? = some (.ref b31)) (h32_ : vs[32]? = some (.ref b32)) (h33_ : vs[33]? = some (.ref b33)) (hv9 : v9 < 11) (hhr : uh < 24) (hto : to < 7) : MetV l g yX12_tells cX12_tells 6 none 0 0 0 [.ref h0, .int (nI v9), .int (nI (uh + 1)), .int nw, .int (nI to)] [(h0, .inr (12, vs)), (b8, .inl (g.2.1 1, 11, .inl rD)), (b30, .inl (g.2.1 1, 175, .inl aF)), (b31, .inl (g.2.1 1, 175, .inl oN)), (b32, .inl (g.2.1 1, 7, .inl fR)), (b33, .inl (g.2.1 1, 7, .inl tW))] (fun u => u = [(h0, .inr (12, vs)), (b8, .inl (g.2.1 1, 11, .inl rD)), (b30, .inl (g.2.1 1, 175, .inl aF)), (b31, .inl (g.2.1 1, 175, .inl oN)), (b32, .inl (g.2.1 1, 7, .inl ((F_X12_tells rD aF oN fR tW v9 uh nw to).1))), (b33, .inl (g.2.1 1, 7, .inl ((F_X12_tells rD aF oN fR tW v9 uh nw to).2)))]) := by
  refine MetV.of (own := RX12) rfl (by decide) (Nat.le_of_ble_eq_true rfl) ?_
  intro p e s m below meth c A ls args Q hQ X hr hin hW hl
  have hx := X.1
  have hb := X.2.1
  have hl : lv_has ls 6 [(0, .ref h0), (1, .int (nI v9)), (2, .int (nI (uh + 1))), (3, .int nw), (4, .int (nI to))] := hl
  refine lv_iload_n (pc := 0) hx hb dX12_tells_0 rfl (lv_at hl 3 rfl) ?_
  refine lv_aload_n (pc := 1) hx hb dX12_tells_1 rfl (lv_at hl 0 rfl) ?_
  refine r_get X hW 0 ciX12 30 rfl (by decide) m_1261 rfl h30_ dX12_tells_2 ?_
  refine lv_bipush (v := 7) (pc := 5) hx hb dX12_tells_5 (by decide) ?_
  refine lv_iload_n (pc := 7) hx hb dX12_tells_7 rfl (lv_at hl 2 rfl) ?_
  refine lv_iconst (v := 1) (pc := 8) hx hb dX12_tells_8 (by decide) ?_
  refine lv_isub (pc := 9) hx hb dX12_tells_9 ?_
  refine lv_topi (fun v1 ev1 => ?_)
  obtain rfl : v1 = nI (uh + 1 - 1) := ev1.trans (pk_sub (a := (uh + 1)) (b := 1) (by omega))
  refine lv_imul (pc := 10) hx hb dX12_tells_10 ?_
  refine lv_topi (fun v2 ev2 => ?_)
  obtain rfl : v2 = nI (7 * (uh + 1 - 1)) := ev2.trans (pk_mul 7 (uh + 1 - 1))
  refine lv_iload (pc := 11) hx hb dX12_tells_11 (lv_at hl 4 rfl) ?_
  refine lv_iadd (pc := 13) hx hb dX12_tells_13 ?_
  refine lv_topi (fun v3 ev3 => ?_)
  obtain rfl : v3 = nI (7 * (uh + 1 - 1) + to) := ev3.trans (nI_add _ _)
  refine r_iald X hW 2 rfl (vp_in_nI (by omega) (by decide)) dX12_tells_14 ?_
  refine lv_topi (fun v4 ev4 => ?_)
  obtain rfl : v4 = aF (7 * (uh + 1 - 1) + to) := ev4.trans (by rw [nI_clamp (by omega)])
  refine lv_iconst (v := (-1)) (pc := 15) hx hb dX12_tells_15 (by decide) ?_
  refine lv_ixor (pc := 16) hx hb dX12_tells_16 ?_
  refine lv_iand (pc := 17) hx hb dX12_tells_17 ?_
  refine lv_istore (lv' := [(5, .int (nw &&& ((aF (7 * (uh + 1 - 1) + to)) ^^^ (-1 : Int32)))), (0, .ref h0), (1, .int (nI v9)), (2, .int (nI (uh + 1))), (3, .int nw), (4, .int (nI to))]) (pc := 18) hx hb dX12_tells_18 hl (by decide) rfl (fun ls hl => ?_)
  refine lv_aload_n (pc := 20) hx hb dX12_tells_20 rfl (lv_at hl 1 rfl) ?_
  refine r_get X hW 0 ciX12 8 rfl (by decide) m_1239 rfl h8_ dX12_tells_21 ?_
  refine lv_iload_n (pc := 24) hx hb dX12_tells_24 rfl (lv_at hl 2 rfl) ?_
  refine r_iald X hW 1 rfl (vp_in_nI (by omega) (by decide)) dX12_tells_25 ?_
  refine lv_topi (fun v5 ev5 => ?_)
  obtain rfl : v5 = rD v9 := ev5.trans (by rw [nI_clamp (by omega)])
  refine lv_iload (pc := 26) hx hb dX12_tells_26 (lv_at hl 5 rfl) ?_
  refine lv_ishr (pc := 28) hx hb dX12_tells_28 ?_
  refine lv_iconst (v := 1) (pc := 29) hx hb dX12_tells_29 (by decide) ?_
  refine lv_iand (pc := 30) hx hb dX12_tells_30 ?_
  refine lv_if_ne (tgt := 47) (pc := 31) hx hb dX12_tells_31 rfl (fun c6 => ?_) (fun c6 => ?_)
  · refine lv_aload_n (pc := 47) hx hb dX12_tells_47 rfl (lv_at hl 1 rfl) ?_
    refine r_get X hW 0 ciX12 32 rfl (by decide) m_1263 rfl h32_ dX12_tells_48 ?_
    refine lv_iload (pc := 51) hx hb dX12_tells_51 (lv_at hl 5 rfl) ?_
    refine lv_dup2_11 (pc := 53) hx hb dX12_tells_53 rfl rfl ?_
    refine r_iald X hW 4 rfl (vp_in_nI (by omega) (by decide)) dX12_tells_54 ?_
    refine lv_topi (fun v8 ev8 => ?_)
    obtain rfl : v8 = fR to := ev8.trans (by rw [nI_clamp (by omega)])
    refine lv_iload (pc := 55) hx hb dX12_tells_55 (lv_at hl 0 rfl) ?_
    refine lv_aload_n (pc := 57) hx hb dX12_tells_57 rfl (lv_at hl 1 rfl) ?_
    refine r_get X hW 0 ciX12 31 rfl (by decide) m_1262 rfl h31_ dX12_tells_58 ?_
    refine lv_bipush (v := 7) (pc := 61) hx hb dX12_tells_61 (by decide) ?_
    refine lv_iload_n (pc := 63) hx hb dX12_tells_63 rfl (lv_at hl 3 rfl) ?_
    refine lv_iconst (v := 1) (pc := 64) hx hb dX12_tells_64 (by decide) ?_
    refine lv_isub (pc := 65) hx hb dX12_tells_65 ?_
    refine lv_topi (fun v9 ev9 => ?_)
    obtain rfl : v9 = nI (uh + 1 - 1) := ev9.trans (pk_sub (a := (uh + 1)) (b := 1) (by omega))
    refine lv_imul (pc := 66) hx hb dX12_tells_66 ?_
    refine lv_topi (fun v10 ev10 => ?_)
    obtain rfl : v10 = nI (7 * (uh + 1 - 1)) := ev10.trans (pk_mul 7 (uh + 1 - 1))
    refine lv_iload (pc := 67) hx hb dX12_tells_67 (lv_at hl 5 rfl) ?_
    refine lv_iadd (pc := 69) hx hb dX12_tells_69 ?_
    refine lv_topi (fun v11 ev11 => ?_)
    obtain rfl : v11 = nI (7 * (uh + 1 - 1) + to) := ev11.trans (nI_add _ _)
    refine r_iald X hW 3 rfl (vp_in_nI (by omega) (by decide)) dX12_tells_70 ?_
    refine lv_topi (fun v12 ev12 => ?_)
    obtain rfl : v12 = oN (7 * (uh + 1 - 1) + to) := ev12.trans (by rw [nI_clamp (by omega)])
    refine lv_aload_n (pc := 71) hx hb dX12_tells_71 rfl (lv_at hl 1 rfl) ?_
    refine r_get X hW 0 ciX12 33 rfl (by decide) m_1264 rfl h33_ dX12_tells_72 ?_
    refine lv_iload (pc := 75) hx hb dX12_tells_75 (lv_at hl 5 rfl) ?_
    refine r_iald X hW 5 rfl (vp_in_nI (by omega) (by decide)) dX12_tells_77 ?_
    refine lv_topi (fun v13 ev13 => ?_)
    obtain rfl : v13 = tW to := ev13.trans (by rw [nI_clamp (by omega)])
    refine lv_ior (pc := 78) hx hb dX12_tells_78 ?_
    refine lv_iand (pc := 79) hx hb dX12_tells_79 ?_
    refine lv_ior (pc := 80) hx hb dX12_tells_80 ?_
    refine r_iast (ws' := [(h0, .inr (12, vs)), (b8, .inl (g.2.1 1, 11, .inl rD)), (b30, .inl (g.2.1 1, 175, .inl aF)), (b31, .inl (g.2.1 1, 175, .inl oN)), (b32, .inl (g.2.1 1, 7, .inl (upd fR to ((fR to) ||| ((nw &&& ((aF (7 * (uh + 1 - 1) + to)) ^^^ (-1 : Int32))) &&& ((oN (7 * (uh + 1 - 1) + to)) ||| (tW to))))))), (b33, .inl (g.2.1 1, 7, .inl tW))]) X hW 4 rfl (vp_in_nI (by omega) (by decide)) (f' := (upd fR to ((fR to) ||| ((nw &&& ((aF (7 * (uh + 1 - 1) + to)) ^^^ (-1 : Int32))) &&& ((oN (7 * (uh + 1 - 1) + to)) ||| (tW to)))))) (by rw [nI_clamp (by omega)]) rfl dX12_tells_81 (fun H locs hW => ?_)
    refine lv_aload_n (pc := 82) hx hb dX12_tells_82 rfl (lv_at hl 1 rfl) ?_
    refine r_get X hW 0 ciX12 33 rfl (by decide) m_1264 rfl h33_ dX12_tells_83 ?_
    refine lv_iload (pc := 86) hx hb dX12_tells_86 (lv_at hl 5 rfl) ?_
    refine lv_dup2_11 (pc := 88) hx hb dX12_tells_88 rfl rfl ?_
    refine r_iald X hW 5 rfl (vp_in_nI (by omega) (by decide)) dX12_tells_89 ?_
    refine lv_topi (fun v14 ev14 => ?_)
    obtain rfl : v14 = tW to := ev14.trans (by rw [nI_clamp (by omega)])
    refine lv_iload (pc := 90) hx hb dX12_tells_90 (lv_at hl 0 rfl) ?_
    refine lv_ior (pc := 92) hx hb dX12_tells_92 ?_
    refine r_iast (ws' := [(h0, .inr (12, vs)), (b8, .inl (g.2.1 1, 11, .inl rD)), (b30, .inl (g.2.1 1, 175, .inl aF)), (b31, .inl (g.2.1 1, 175, .inl oN)), (b32, .inl (g.2.1 1, 7, .inl (upd fR to ((fR to) ||| ((nw &&& ((aF (7 * (uh + 1 - 1) + to)) ^^^ (-1 : Int32))) &&& ((oN (7 * (uh + 1 - 1) + to)) ||| (tW to))))))), (b33, .inl (g.2.1 1, 7, .inl (upd tW to ((tW to) ||| (nw &&& ((aF (7 * (uh + 1 - 1) + to)) ^^^ (-1 : Int32)))))))]) X hW 5 rfl (vp_in_nI (by omega) (by decide)) (f' := (upd tW to ((tW to) ||| (nw &&& ((aF (7 * (uh + 1 - 1) + to)) ^^^ (-1 : Int32)))))) (by rw [nI_clamp (by omega)]) rfl dX12_tells_93 (fun H locs hW => ?_)
    have hF : F_X12_tells rD aF oN fR tW v9 uh nw to = ((upd fR to ((fR to) ||| ((nw &&& ((aF (7 * (uh + 1 - 1) + to)) ^^^ (-1 : Int32))) &&& ((oN (7 * (uh + 1 - 1) + to)) ||| (tW to))))), (upd tW to ((tW to) ||| (nw &&& ((aF (7 * (uh + 1 - 1) + to)) ^^^ (-1 : Int32)))))) := show F_X12_tells rD aF oN fR tW v9 uh nw to = ((upd fR to ((fR to) ||| ((nw &&& ((aF (7 * (uh + 1 - 1) + to)) ^^^ (-1 : Int32))) &&& ((oN (7 * (uh + 1 - 1) + to)) ||| (tW to))))), (upd tW to ((tW to) ||| (nw &&& ((aF (7 * (uh + 1 - 1) + to)) ^^^ (-1 : Int32)))))) from by rw [F_X12_tells, if_neg c6]
    exact e_v (u := [(h0, .inr (12, vs)), (b8, .inl (g.2.1 1, 11, .inl rD)), (b30, .inl (g.2.1 1, 175, .inl aF)), (b31, .inl (g.2.1 1, 175, .inl oN)), (b32, .inl (g.2.1 1, 7, .inl (upd fR to ((fR to) ||| ((nw &&& ((aF (7 * (uh + 1 - 1) + to)) ^^^ (-1 : Int32))) &&& ((oN (7 * (uh + 1 - 1) + to)) ||| (tW to))))))), (b33, .inl (g.2.1 1, 7, .inl (upd tW to ((tW to) ||| (nw &&& ((aF (7 * (uh + 1 - 1) + to)) ^^^ (-1 : Int32)))))))]) X hQ hr (hW) [0, 1, 2, 3, 4, 5] rfl rfl (by rw [hF]) ⟨Nat.le_of_ble_eq_true rfl, Nat.le_of_ble_eq_true rfl⟩ dX12_tells_94
  · refine lv_aload_n (pc := 34) hx hb dX12_tells_34 rfl (lv_at hl 1 rfl) ?_
    refine r_get X hW 0 ciX12 32 rfl (by decide) m_1263 rfl h32_ dX12_tells_35 ?_
    refine lv_iload (pc := 38) hx hb dX12_tells_38 (lv_at hl 5 rfl) ?_
    refine lv_dup2_11 (pc := 40) hx hb dX12_tells_40 rfl rfl ?_
    refine r_iald X hW 4 rfl (vp_in_nI (by omega) (by decide)) dX12_tells_41 ?_
    refine lv_topi (fun v16 ev16 => ?_)
    obtain rfl : v16 = fR to := ev16.trans (by rw [nI_clamp (by omega)])
    refine lv_iload (pc := 42) hx hb dX12_tells_42 (lv_at hl 0 rfl) ?_
    refine lv_ior (pc := 44) hx hb dX12_tells_44 ?_
    refine r_iast (ws' := [(h0, .inr (12, vs)), (b8, .inl (g.2.1 1, 11, .inl rD)), (b30, .inl (g.2.1 1, 175, .inl aF)), (b31, .inl (g.2.1 1, 175, .inl oN)), (b32, .inl (g.2.1 1, 7, .inl (upd fR to ((fR to) ||| (nw &&& ((aF (7 * (uh + 1 - 1) + to)) ^^^ (-1 : Int32))))))), (b33, .inl (g.2.1 1, 7, .inl tW))]) X hW 4 rfl (vp_in_nI (by omega) (by decide)) (f' := (upd fR to ((fR to) ||| (nw &&& ((aF (7 * (uh + 1 - 1) + to)) ^^^ (-1 : Int32)))))) (by rw [nI_clamp (by omega)]) rfl dX12_tells_45 (fun H locs hW => ?_)
    have hF : F_X12_tells rD aF oN fR tW v9 uh nw to = ((upd fR to ((fR to) ||| (nw &&& ((aF (7 * (uh + 1 - 1) + to)) ^^^ (-1 : Int32))))), tW) := show F_X12_tells rD aF oN fR tW v9 uh nw to = ((upd fR to ((fR to) ||| (nw &&& ((aF (7 * (uh + 1 - 1) + to)) ^^^ (-1 : Int32))))), tW) from by rw [F_X12_tells, if_pos c6]
    exact e_v (u := [(h0, .inr (12, vs)), (b8, .inl (g.2.1 1, 11, .inl rD)), (b30, .inl (g.2.1 1, 175, .inl aF)), (b31, .inl (g.2.1 1, 175, .inl oN)), (b32, .inl (g.2.1 1, 7, .inl (upd fR to ((fR to) ||| (nw &&& ((aF (7 * (uh + 1 - 1) + to)) ^^^ (-1 : Int32))))))), (b33, .inl (g.2.1 1, 7, .inl tW))]) X hQ hr (hW) [0, 1, 2, 3, 4, 5] rfl rfl (by rw [hF]) ⟨Nat.le_of_ble_eq_true rfl, Nat.le_of_ble_eq_true rfl⟩ dX12_tells_46

def L1_X12_notFors (rS : Nat → Int32) (v9 : Nat) (o : Nat) (j1 : Nat) (x3_1 : Int32) : Int32 := x3_1 ||| ((((rS (4 * v9 + j1)) >>> ((nI o) &&& 31)) &&& (1 : Int32)) <<< ((nI j1) &&& 31))
def L1_X12_notFor (rS : Nat → Int32) (v9 : Nat) (o : Nat) (i0_ : Int32) : Nat → Int32
  | 0 => (i0_)
  | k_ + 1 => L1_X12_notFors rS v9 o k_ (L1_X12_notFor rS v9 o i0_ k_)
def F_X12_notFor (rS : Nat → Int32) (v9 : Nat) (o : Nat) : Int32 := (L1_X12_notFor rS v9 o (0 : Int32) 4)
set_option maxHeartbeats 4000000 in
set_option maxRecDepth 100000 in
theorem K_X12_notFor (l : Launch) (g : GG) (h0 : Nat) (vs : List Value) (b11 : Nat) (rS : Nat → Int32) (v9 : Nat) (o : Nat) (hlen : vs.length = 64) (h11_ : vs[11]? = some (.ref b11)) (hv9 : v9 < 11) : MetI l g yX12_notFor cX12_notFor 5 (some .int) 0 0 0 [.ref h0, .int (nI v9), .int (nI o)] [(h0, .inr (12, vs)), (b11, .inl (g.2.1 1, 44, .inl rS))] (fun r u => r = (F_X12_notFor rS v9 o) ∧ u = [(h0, .inr (12, vs)), (b11, .inl (g.2.1 1, 44, .inl rS))]) := by
  refine MetI.of (own := RX12) rfl (by decide) (Nat.le_of_ble_eq_true rfl) ?_
  intro p e s m below meth c A ls args Q hQ X hr hin hW hl
  have hx := X.1
  have hb := X.2.1
  have hl : lv_has ls 5 [(0, .ref h0), (1, .int (nI v9)), (2, .int (nI o))] := hl
  refine lv_iconst (v := 0) (pc := 0) hx hb dX12_notFor_0 (by decide) ?_
  refine lv_istore_n (lv' := [(3, .int 0), (0, .ref h0), (1, .int (nI v9)), (2, .int (nI o))]) (pc := 1) hx hb dX12_notFor_1 rfl hl (by decide) rfl (fun ls hl => ?_)
  refine lv_iconst (v := 0) (pc := 2) hx hb dX12_notFor_2 (by decide) ?_
  refine lv_istore (lv' := [(4, .int 0), (3, .int 0), (0, .ref h0), (1, .int (nI v9)), (2, .int (nI o))]) (pc := 3) hx hb dX12_notFor_3 hl (by decide) rfl (fun ls hl => ?_)
  have loop1 : ∀ (fu1 : Nat) (j1 : Nat) (x3_1 : Int32), (4 < fu1 + j1) → (j1 ≤ 4) → (x3_1 = L1_X12_notFor rS v9 o (0 : Int32) j1) → ∀ (H : Heap) (locs : List Loc) (ls : Array Slot), WD g A s H locs [(h0, .inr (12, vs)), (b11, .inl (g.2.1 1, 44, .inl rS))] → lv_has ls 5 [(4, .int (nI j1)), (3, .int x3_1), (0, .ref h0), (1, .int (nI v9)), (2, .int (nI o))] → W p l e (RM 0 0 0) s m args below meth c H locs 0 0 Q (F0 m 5 ls []) := by
    intro fu1
    induction fu1 with
    | zero =>
      intro j1 x3_1 hm1 hj1 hst1
      exact absurd hm1 (by omega)
    | succ fu1 ih1 =>
      intro j1 x3_1 hm1 hj1 hst1 H locs ls hW hl
      refine lv_iload (pc := 5) hx hb dX12_notFor_5 (lv_at hl 0 rfl) ?_
      refine lv_iconst (v := 4) (pc := 7) hx hb dX12_notFor_7 (by decide) ?_
      refine lv_icmp_ge (tgt := 38) (pc := 8) hx hb dX12_notFor_8 rfl (fun c1 => ?_) (fun c1 => ?_)
      · have h2 : 4 ≤ j1 := (nI_leI (a := 4) (b := j1) (by omega) (by omega)).mp c1
        have hN1 : j1 = 4 := by omega
        rw [hN1] at hst1
        subst hst1
        have hW : WD g A s _ _ [(h0, .inr (12, vs)), (b11, .inl (g.2.1 1, 44, .inl rS))] := hW
        refine lv_iload_n (pc := 38) hx hb dX12_notFor_38 rfl (lv_at hl 1 rfl) ?_
        have hF : F_X12_notFor rS v9 o = (L1_X12_notFor rS v9 o (0 : Int32) 4) := show F_X12_notFor rS v9 o = (L1_X12_notFor rS v9 o (0 : Int32) 4) from rfl
        exact e_i (u := [(h0, .inr (12, vs)), (b11, .inl (g.2.1 1, 44, .inl rS))]) X hQ hr (hW) [0, 1] rfl rfl (⟨hF.symm, rfl⟩) ⟨Nat.le_of_ble_eq_true rfl, Nat.le_of_ble_eq_true rfl⟩ dX12_notFor_39
      · have h3 : ¬ (4 ≤ j1) := fun q => c1 ((nI_leI (a := 4) (b := j1) (by omega) (by omega)).mpr q)
        refine lv_iload_n (pc := 11) hx hb dX12_notFor_11 rfl (lv_at hl 1 rfl) ?_
        refine lv_aload_n (pc := 12) hx hb dX12_notFor_12 rfl (lv_at hl 2 rfl) ?_
        refine r_get X hW 0 ciX12 11 rfl (by decide) m_1242 rfl h11_ dX12_notFor_13 ?_
        refine lv_iconst (v := 4) (pc := 16) hx hb dX12_notFor_16 (by decide) ?_
        refine lv_iload_n (pc := 17) hx hb dX12_notFor_17 rfl (lv_at hl 3 rfl) ?_
        refine lv_imul (pc := 18) hx hb dX12_notFor_18 ?_
        refine lv_topi (fun v4 ev4 => ?_)
        obtain rfl : v4 = nI (4 * v9) := ev4.trans (pk_mul 4 v9)
        refine lv_iload (pc := 19) hx hb dX12_notFor_19 (lv_at hl 0 rfl) ?_
        refine lv_iadd (pc := 21) hx hb dX12_notFor_21 ?_
        refine lv_topi (fun v5 ev5 => ?_)
        obtain rfl : v5 = nI (4 * v9 + j1) := ev5.trans (nI_add _ _)
        refine r_iald X hW 1 rfl (vp_in_nI (by omega) (by decide)) dX12_notFor_22 ?_
        refine lv_topi (fun v6 ev6 => ?_)
        obtain rfl : v6 = rS (4 * v9 + j1) := ev6.trans (by rw [nI_clamp (by omega)])
        refine lv_iload_n (pc := 23) hx hb dX12_notFor_23 rfl (lv_at hl 4 rfl) ?_
        refine lv_ishr (pc := 24) hx hb dX12_notFor_24 ?_
        refine lv_iconst (v := 1) (pc := 25) hx hb dX12_notFor_25 (by decide) ?_
        refine lv_iand (pc := 26) hx hb dX12_notFor_26 ?_
        refine lv_iload (pc := 27) hx hb dX12_notFor_27 (lv_at hl 0 rfl) ?_
        refine lv_ishl (pc := 29) hx hb dX12_notFor_29 ?_
        refine lv_ior (pc := 30) hx hb dX12_notFor_30 ?_
        refine lv_istore_n (lv' := [(3, .int (x3_1 ||| ((((rS (4 * v9 + j1)) >>> ((nI o) &&& 31)) &&& (1 : Int32)) <<< ((nI j1) &&& 31)))), (4, .int (nI j1)), (0, .ref h0), (1, .int (nI v9)), (2, .int (nI o))]) (pc := 31) hx hb dX12_notFor_31 rfl hl (by decide) rfl (fun ls hl => ?_)
        refine lv_iinc (v := nI (j1 + 1)) (lv' := [(4, .int (nI (j1 + 1))), (3, .int (x3_1 ||| ((((rS (4 * v9 + j1)) >>> ((nI o) &&& 31)) &&& (1 : Int32)) <<< ((nI j1) &&& 31)))), (0, .ref h0), (1, .int (nI v9)), (2, .int (nI o))]) (pc := 32) hx hb dX12_notFor_32 hl (k := 1) rfl (nI_add j1 1) (by decide) rfl (fun ls hl => ?_)
        refine lv_goto (tgt := 5) (pc := 35) hx hb dX12_notFor_35 rfl ?_
        exact ih1 (j1 + 1) (x3_1 ||| ((((rS (4 * v9 + j1)) >>> ((nI o) &&& 31)) &&& (1 : Int32)) <<< ((nI j1) &&& 31))) (by omega) (by omega) (by rw [L1_X12_notFor, ← hst1]; exact (show L1_X12_notFors rS v9 o j1 x3_1 = x3_1 ||| ((((rS (4 * v9 + j1)) >>> ((nI o) &&& 31)) &&& (1 : Int32)) <<< ((nI j1) &&& 31)) from rfl).symm) _ _ _ hW (lv_sub hl [0, 1, 2, 3, 4] rfl)
  exact loop1 (4 + 1) 0 (0 : Int32) (by omega) (by omega) rfl _ _ _ hW (lv_sub hl [0, 1, 2, 3, 4] rfl)

def L6_X12_carrys (rD : Nat → Int32) (rS : Nat → Int32) (pK : Nat → Int32) (pA : Nat → Int32) (pR : Nat → Int32) (i : Nat) (v9 : Nat) (wo : Int32) (j2 : Nat) (fb30_2 : Nat → Int32) (fb31_2 : Nat → Int32) (j4 : Nat) (j6 : Nat) (fb32_6 : Nat → Int32) (fb33_6 : Nat → Int32) : (Nat → Int32) × (Nat → Int32) := if ((pR j4) >>> ((nI j6) &&& 31)) &&& (1 : Int32) = 0 then ((fb32_6, fb33_6)) else (if nI j6 = wo then ((fb32_6, fb33_6)) else (if pK (40 * i + j4) = 0 then ((((F_X12_tells rD fb30_2 fb31_2 ((F_X12_tells rD fb30_2 fb31_2 fb32_6 fb33_6 v9 j2 (fb30_2 (7 * (j2 + 1 - 1) + tN (pA (40 * i + j4)))) j6).1) ((F_X12_tells rD fb30_2 fb31_2 fb32_6 fb33_6 v9 j2 (fb30_2 (7 * (j2 + 1 - 1) + tN (pA (40 * i + j4)))) j6).2) v9 j2 (fb30_2 (7 * (j2 + 1 - 1) + j6)) (tN (pA (40 * i + j4)))).1), ((F_X12_tells rD fb30_2 fb31_2 ((F_X12_tells rD fb30_2 fb31_2 fb32_6 fb33_6 v9 j2 (fb30_2 (7 * (j2 + 1 - 1) + tN (pA (40 * i + j4)))) j6).1) ((F_X12_tells rD fb30_2 fb31_2 fb32_6 fb33_6 v9 j2 (fb30_2 (7 * (j2 + 1 - 1) + tN (pA (40 * i + j4)))) j6).2) v9 j2 (fb30_2 (7 * (j2 + 1 - 1) + j6)) (tN (pA (40 * i + j4)))).2))) else (if pK (40 * i + j4) = 1 then ((((F_X12_tells rD fb30_2 fb31_2 fb32_6 fb33_6 v9 j2 (fb30_2 (7 * (j2 + 1 - 1) + tN (pA (40 * i + j4)))) j6).1), ((F_X12_tells rD fb30_2 fb31_2 fb32_6 fb33_6 v9 j2 (fb30_2 (7 * (j2 + 1 - 1) + tN (pA (40 * i + j4)))) j6).2))) else (if pK (40 * i + j4) = 3 then ((((F_X12_tells rD fb30_2 fb31_2 fb32_6 fb33_6 v9 j2 (fb30_2 (7 * (j2 + 1 - 1) + tN (pA (40 * i + j4)))) j6).1), ((F_X12_tells rD fb30_2 fb31_2 fb32_6 fb33_6 v9 j2 (fb30_2 (7 * (j2 + 1 - 1) + tN (pA (40 * i + j4)))) j6).2))) else (if pK (40 * i + j4) = 2 then ((((F_X12_tells rD fb30_2 fb31_2 fb32_6 fb33_6 v9 j2 (fb30_2 (7 * (j2 + 1 - 1) + j6)) (tN (pA (40 * i + j4)))).1), ((F_X12_tells rD fb30_2 fb31_2 fb32_6 fb33_6 v9 j2 (fb30_2 (7 * (j2 + 1 - 1) + j6)) (tN (pA (40 * i + j4)))).2))) else (if pK (40 * i + j4) = 4 then ((((F_X12_tells rD fb30_2 fb31_2 fb32_6 fb33_6 v9 j2 ((fb30_2 (7 * (j2 + 1 - 1) + tN (pA (40 * i + j4)))) &&& ((F_X12_notFor rS v9 j6) ^^^ (-1 : Int32))) j6).1), ((F_X12_tells rD fb30_2 fb31_2 fb32_6 fb33_6 v9 j2 ((fb30_2 (7 * (j2 + 1 - 1) + tN (pA (40 * i + j4)))) &&& ((F_X12_notFor rS v9 j6) ^^^ (-1 : Int32))) j6).2))) else ((fb32_6, fb33_6))))))))
def L6_X12_carry (rD : Nat → Int32) (rS : Nat → Int32) (pK : Nat → Int32) (pA : Nat → Int32) (pR : Nat → Int32) (i : Nat) (v9 : Nat) (wo : Int32) (j2 : Nat) (fb30_2 : Nat → Int32) (fb31_2 : Nat → Int32) (j4 : Nat) (i0_ : Nat → Int32) (i1_ : Nat → Int32) : Nat → (Nat → Int32) × (Nat → Int32)
  | 0 => (i0_, i1_)
  | k_ + 1 => L6_X12_carrys rD rS pK pA pR i v9 wo j2 fb30_2 fb31_2 j4 k_ ((L6_X12_carry rD rS pK pA pR i v9 wo j2 fb30_2 fb31_2 j4 i0_ i1_ k_).1) ((L6_X12_carry rD rS pK pA pR i v9 wo j2 fb30_2 fb31_2 j4 i0_ i1_ k_).2)
def L4_X12_carrys (rD : Nat → Int32) (rS : Nat → Int32) (pH : Nat → Int32) (pK : Nat → Int32) (pA : Nat → Int32) (pW : Nat → Int32) (pR : Nat → Int32) (pe : Nat) (i : Nat) (v9 : Nat) (lo : Int64) (wo : Int32) (j2 : Nat) (fb30_2 : Nat → Int32) (fb31_2 : Nat → Int32) (j4 : Nat) (fb32_4 : Nat → Int32) (fb33_4 : Nat → Int32) : (Nat → Int32) × (Nat → Int32) := if pH (40 * i + j4) = nI (j2 + 1) then (if pW j4 = 0 then (if lg_cmp ((lo >>> ((nI j4).toInt64 &&& 63)) &&& (1 : Int64)) 1 = 0 then ((fb32_4, fb33_4)) else (if pA (40 * i + j4) = wo then ((fb32_4, fb33_4)) else ((((L6_X12_carry rD rS pK pA pR i v9 wo j2 fb30_2 fb31_2 j4 fb32_4 fb33_4 pe).1), ((L6_X12_carry rD rS pK pA pR i v9 wo j2 fb30_2 fb31_2 j4 fb32_4 fb33_4 pe).2))))) else ((fb32_4, fb33_4))) else ((fb32_4, fb33_4))
def L4_X12_carry (rD : Nat → Int32) (rS : Nat → Int32) (pH : Nat → Int32) (pK : Nat → Int32) (pA : Nat → Int32) (pW : Nat → Int32) (pR : Nat → Int32) (pe : Nat) (i : Nat) (v9 : Nat) (lo : Int64) (wo : Int32) (j2 : Nat) (fb30_2 : Nat → Int32) (fb31_2 : Nat → Int32) (i0_ : Nat → Int32) (i1_ : Nat → Int32) : Nat → (Nat → Int32) × (Nat → Int32)
  | 0 => (i0_, i1_)
  | k_ + 1 => L4_X12_carrys rD rS pH pK pA pW pR pe i v9 lo wo j2 fb30_2 fb31_2 k_ ((L4_X12_carry rD rS pH pK pA pW pR pe i v9 lo wo j2 fb30_2 fb31_2 i0_ i1_ k_).1) ((L4_X12_carry rD rS pH pK pA pW pR pe i v9 lo wo j2 fb30_2 fb31_2 i0_ i1_ k_).2)
def L3_X12_carrys  (j3 : Nat) (fb32_3 : Nat → Int32) (fb33_3 : Nat → Int32) : (Nat → Int32) × (Nat → Int32) := ((upd fb32_3 j3 (0 : Int32)), (upd fb33_3 j3 (0 : Int32)))
def L3_X12_carry  (i0_ : Nat → Int32) (i1_ : Nat → Int32) : Nat → (Nat → Int32) × (Nat → Int32)
  | 0 => (i0_, i1_)
  | k_ + 1 => L3_X12_carrys  k_ ((L3_X12_carry  i0_ i1_ k_).1) ((L3_X12_carry  i0_ i1_ k_).2)
def L5_X12_carrys (rD : Nat → Int32) (rS : Nat → Int32) (pH : Nat → Int32) (pK : Nat → Int32) (pA : Nat → Int32) (pW : Nat → Int32) (pR : Nat → Int32) (pe : Nat) (i : Nat) (v9 : Nat) (cn : Nat) (lo : Int64) (wo : Int32) (j2 : Nat) (fb30_2 : Nat → Int32) (fb31_2 : Nat → Int32) (fb32_2 : Nat → Int32) (fb33_2 : Nat → Int32) (j5 : Nat) (fb30_5 : Nat → Int32) (fb31_5 : Nat → Int32) : (Nat → Int32) × (Nat → Int32) := ((upd fb30_5 (7 * (j2 + 1) + j5) ((fb30_5 (7 * (j2 + 1 - 1) + j5)) ||| (((L4_X12_carry rD rS pH pK pA pW pR pe i v9 lo wo j2 fb30_2 fb31_2 ((L3_X12_carry fb32_2 fb33_2 pe).1) ((L3_X12_carry fb32_2 fb33_2 pe).2) cn).1) j5))), (upd fb31_5 (7 * (j2 + 1) + j5) ((fb31_5 (7 * (j2 + 1 - 1) + j5)) ||| (((L4_X12_carry rD rS pH pK pA pW pR pe i v9 lo wo j2 fb30_2 fb31_2 ((L3_X12_carry fb32_2 fb33_2 pe).1) ((L3_X12_carry fb32_2 fb33_2 pe).2) cn).2) j5))))
def L5_X12_carry (rD : Nat → Int32) (rS : Nat → Int32) (pH : Nat → Int32) (pK : Nat → Int32) (pA : Nat → Int32) (pW : Nat → Int32) (pR : Nat → Int32) (pe : Nat) (i : Nat) (v9 : Nat) (cn : Nat) (lo : Int64) (wo : Int32) (j2 : Nat) (fb30_2 : Nat → Int32) (fb31_2 : Nat → Int32) (fb32_2 : Nat → Int32) (fb33_2 : Nat → Int32) (i0_ : Nat → Int32) (i1_ : Nat → Int32) : Nat → (Nat → Int32) × (Nat → Int32)
  | 0 => (i0_, i1_)
  | k_ + 1 => L5_X12_carrys rD rS pH pK pA pW pR pe i v9 cn lo wo j2 fb30_2 fb31_2 fb32_2 fb33_2 k_ ((L5_X12_carry rD rS pH pK pA pW pR pe i v9 cn lo wo j2 fb30_2 fb31_2 fb32_2 fb33_2 i0_ i1_ k_).1) ((L5_X12_carry rD rS pH pK pA pW pR pe i v9 cn lo wo j2 fb30_2 fb31_2 fb32_2 fb33_2 i0_ i1_ k_).2)
def L2_X12_carrys (rD : Nat → Int32) (rS : Nat → Int32) (pH : Nat → Int32) (pK : Nat → Int32) (pA : Nat → Int32) (pW : Nat → Int32) (pR : Nat → Int32) (pe : Nat) (i : Nat) (v9 : Nat) (cn : Nat) (lo : Int64) (wo : Int32) (j2 : Nat) (fb30_2 : Nat → Int32) (fb31_2 : Nat → Int32) (fb32_2 : Nat → Int32) (fb33_2 : Nat → Int32) : (Nat → Int32) × (Nat → Int32) × (Nat → Int32) × (Nat → Int32) := (((L5_X12_carry rD rS pH pK pA pW pR pe i v9 cn lo wo j2 fb30_2 fb31_2 fb32_2 fb33_2 fb30_2 fb31_2 pe).1), ((L5_X12_carry rD rS pH pK pA pW pR pe i v9 cn lo wo j2 fb30_2 fb31_2 fb32_2 fb33_2 fb30_2 fb31_2 pe).2), ((L4_X12_carry rD rS pH pK pA pW pR pe i v9 lo wo j2 fb30_2 fb31_2 ((L3_X12_carry fb32_2 fb33_2 pe).1) ((L3_X12_carry fb32_2 fb33_2 pe).2) cn).1), ((L4_X12_carry rD rS pH pK pA pW pR pe i v9 lo wo j2 fb30_2 fb31_2 ((L3_X12_carry fb32_2 fb33_2 pe).1) ((L3_X12_carry fb32_2 fb33_2 pe).2) cn).2))
def L2_X12_carry (rD : Nat → Int32) (rS : Nat → Int32) (pH : Nat → Int32) (pK : Nat → Int32) (pA : Nat → Int32) (pW : Nat → Int32) (pR : Nat → Int32) (pe : Nat) (i : Nat) (v9 : Nat) (cn : Nat) (lo : Int64) (wo : Int32) (i0_ : Nat → Int32) (i1_ : Nat → Int32) (i2_ : Nat → Int32) (i3_ : Nat → Int32) : Nat → (Nat → Int32) × (Nat → Int32) × (Nat → Int32) × (Nat → Int32)
  | 0 => (i0_, i1_, i2_, i3_)
  | k_ + 1 => L2_X12_carrys rD rS pH pK pA pW pR pe i v9 cn lo wo k_ ((L2_X12_carry rD rS pH pK pA pW pR pe i v9 cn lo wo i0_ i1_ i2_ i3_ k_).1) ((L2_X12_carry rD rS pH pK pA pW pR pe i v9 cn lo wo i0_ i1_ i2_ i3_ k_).2.1) ((L2_X12_carry rD rS pH pK pA pW pR pe i v9 cn lo wo i0_ i1_ i2_ i3_ k_).2.2.1) ((L2_X12_carry rD rS pH pK pA pW pR pe i v9 cn lo wo i0_ i1_ i2_ i3_ k_).2.2.2)
def L7_X12_carrys (rK : Nat → Int32) (v9 : Nat) (j1 : Nat) (j7 : Nat) (x7_7 : Int32) : Int32 := x7_7 ||| ((((rK (4 * v9 + j7)) >>> ((nI j1) &&& 31)) &&& (1 : Int32)) <<< ((nI j7) &&& 31))
def L7_X12_carry (rK : Nat → Int32) (v9 : Nat) (j1 : Nat) (i0_ : Int32) : Nat → Int32
  | 0 => (i0_)
  | k_ + 1 => L7_X12_carrys rK v9 j1 k_ (L7_X12_carry rK v9 j1 i0_ k_)
def L1_X12_carrys (rK : Nat → Int32) (v9 : Nat) (j1 : Nat) (fb30_1 : Nat → Int32) (fb31_1 : Nat → Int32) : (Nat → Int32) × (Nat → Int32) := ((upd fb30_1 j1 (L7_X12_carry rK v9 j1 (0 : Int32) 4)), (upd fb31_1 j1 (0 : Int32)))
def L1_X12_carry (rK : Nat → Int32) (v9 : Nat) (i0_ : Nat → Int32) (i1_ : Nat → Int32) : Nat → (Nat → Int32) × (Nat → Int32)
  | 0 => (i0_, i1_)
  | k_ + 1 => L1_X12_carrys rK v9 k_ ((L1_X12_carry rK v9 i0_ i1_ k_).1) ((L1_X12_carry rK v9 i0_ i1_ k_).2)
def F_X12_carry (rD : Nat → Int32) (rK : Nat → Int32) (rS : Nat → Int32) (pH : Nat → Int32) (pK : Nat → Int32) (pA : Nat → Int32) (pW : Nat → Int32) (pR : Nat → Int32) (aF : Nat → Int32) (oN : Nat → Int32) (fR : Nat → Int32) (tW : Nat → Int32) (pe : Nat) (i : Nat) (v9 : Nat) (cn : Nat) (lo : Int64) (wo : Int32) : (Nat → Int32) × (Nat → Int32) × (Nat → Int32) × (Nat → Int32) := (((L2_X12_carry rD rS pH pK pA pW pR pe i v9 cn lo wo ((L1_X12_carry rK v9 aF oN pe).1) ((L1_X12_carry rK v9 aF oN pe).2) fR tW 24).1), ((L2_X12_carry rD rS pH pK pA pW pR pe i v9 cn lo wo ((L1_X12_carry rK v9 aF oN pe).1) ((L1_X12_carry rK v9 aF oN pe).2) fR tW 24).2.1), ((L2_X12_carry rD rS pH pK pA pW pR pe i v9 cn lo wo ((L1_X12_carry rK v9 aF oN pe).1) ((L1_X12_carry rK v9 aF oN pe).2) fR tW 24).2.2.1), ((L2_X12_carry rD rS pH pK pA pW pR pe i v9 cn lo wo ((L1_X12_carry rK v9 aF oN pe).1) ((L1_X12_carry rK v9 aF oN pe).2) fR tW 24).2.2.2))
set_option maxHeartbeats 4000000 in
set_option maxRecDepth 100000 in
theorem K_X12_carry (l : Launch) (g : GG) (h0 : Nat) (vs : List Value) (b6 : Nat) (rP : Nat → Int32) (b8 : Nat) (rD : Nat → Int32) (b9 : Nat) (rK : Nat → Int32) (b11 : Nat) (rS : Nat → Int32) (b21 : Nat) (pO : Nat → Int32) (b22 : Nat) (pC : Nat → Int32) (b23 : Nat) (pH : Nat → Int32) (b24 : Nat) (pK : Nat → Int32) (b25 : Nat) (pA : Nat → Int32) (b28 : Nat) (pW : Nat → Int32) (b29 : Nat) (pR : Nat → Int32) (b30 : Nat) (aF : Nat → Int32) (b31 : Nat) (oN : Nat → Int32) (b32 : Nat) (fR : Nat → Int32) (b33 : Nat) (tW : Nat → Int32) (pe : Nat) (i : Nat) (v9 : Nat) (cn : Nat) (lo : Int64) (wo : Int32) (hlen : vs.length = 64) (h6_ : vs[6]? = some (.ref b6)) (h8_ : vs[8]? = some (.ref b8)) (h9_ : vs[9]? = some (.ref b9)) (h11_ : vs[11]? = some (.ref b11)) (h21_ : vs[21]? = some (.ref b21)) (h22_ : vs[22]? = some (.ref b22)) (h23_ : vs[23]? = some (.ref b23)) (h24_ : vs[24]? = some (.ref b24)) (h25_ : vs[25]? = some (.ref b25)) (h28_ : vs[28]? = some (.ref b28)) (h29_ : vs[29]? = some (.ref b29)) (h30_ : vs[30]? = some (.ref b30)) (h31_ : vs[31]? = some (.ref b31)) (h32_ : vs[32]? = some (.ref b32)) (h33_ : vs[33]? = some (.ref b33)) (hi : i < 12) (hv9 : v9 < 11) (hpe : pe ≤ 7) (hO : pO i = nI v9) (hP : rP v9 = nI pe) (hOn : ∀ k : Nat, k < cn → pA (40 * i + k) = nI (tN (pA (40 * i + k))) ∧ tN (pA (40 * i + k)) < 7) (hcn : cn ≤ 40) (hC : pC i = nI cn) : MetV l g yX12_carry cX12_carry 13 none 1 0 0 [.ref h0, .int (nI i), .long lo, .int wo] [(h0, .inr (12, vs)), (b6, .inl (g.2.1 1, 11, .inl rP)), (b8, .inl (g.2.1 1, 11, .inl rD)), (b9, .inl (g.2.1 1, 44, .inl rK)), (b11, .inl (g.2.1 1, 44, .inl rS)), (b21, .inl (g.2.1 1, 12, .inl pO)), (b22, .inl (g.2.1 1, 12, .inl pC)), (b23, .inl (g.2.1 1, 480, .inl pH)), (b24, .inl (g.2.1 1, 480, .inl pK)), (b25, .inl (g.2.1 1, 480, .inl pA)), (b28, .inl (g.2.1 1, 40, .inl pW)), (b29, .inl (g.2.1 1, 40, .inl pR)), (b30, .inl (g.2.1 1, 175, .inl aF)), (b31, .inl (g.2.1 1, 175, .inl oN)), (b32, .inl (g.2.1 1, 7, .inl fR)), (b33, .inl (g.2.1 1, 7, .inl tW))] (fun u => u = [(h0, .inr (12, vs)), (b6, .inl (g.2.1 1, 11, .inl rP)), (b8, .inl (g.2.1 1, 11, .inl rD)), (b9, .inl (g.2.1 1, 44, .inl rK)), (b11, .inl (g.2.1 1, 44, .inl rS)), (b21, .inl (g.2.1 1, 12, .inl pO)), (b22, .inl (g.2.1 1, 12, .inl pC)), (b23, .inl (g.2.1 1, 480, .inl pH)), (b24, .inl (g.2.1 1, 480, .inl pK)), (b25, .inl (g.2.1 1, 480, .inl pA)), (b28, .inl (g.2.1 1, 40, .inl pW)), (b29, .inl (g.2.1 1, 40, .inl pR)), (b30, .inl (g.2.1 1, 175, .inl ((F_X12_carry rD rK rS pH pK pA pW pR aF oN fR tW pe i v9 cn lo wo).1))), (b31, .inl (g.2.1 1, 175, .inl ((F_X12_carry rD rK rS pH pK pA pW pR aF oN fR tW pe i v9 cn lo wo).2.1))), (b32, .inl (g.2.1 1, 7, .inl ((F_X12_carry rD rK rS pH pK pA pW pR aF oN fR tW pe i v9 cn lo wo).2.2.1))), (b33, .inl (g.2.1 1, 7, .inl ((F_X12_carry rD rK rS pH pK pA pW pR aF oN fR tW pe i v9 cn lo wo).2.2.2)))]) := by
  refine MetV.of (own := RX12) rfl (by decide) (Nat.le_of_ble_eq_true rfl) ?_
  intro p e s m below meth c A ls args Q hQ X hr hin hW hl
  have hx := X.1
  have hb := X.2.1
  have hl : lv_has ls 13 [(0, .ref h0), (1, .int (nI i)), (2, .long lo), (4, .int wo)] := hl
  refine lv_aload_n (pc := 0) hx hb dX12_carry_0 rfl (lv_at hl 0 rfl) ?_
  refine r_get X hW 0 ciX12 21 rfl (by decide) m_1252 rfl h21_ dX12_carry_1 ?_
  refine lv_iload_n (pc := 4) hx hb dX12_carry_4 rfl (lv_at hl 1 rfl) ?_
  refine r_iald X hW 5 rfl (vp_in_nI (by omega) (by decide)) dX12_carry_5 ?_
  refine lv_topi (fun v1 ev1 => ?_)
  obtain rfl : v1 = pO i := ev1.trans (by rw [nI_clamp (by omega)])
  rw [hO]
  refine lv_istore (lv' := [(5, .int (nI v9)), (0, .ref h0), (1, .int (nI i)), (2, .long lo), (4, .int wo)]) (pc := 6) hx hb dX12_carry_6 hl (by decide) rfl (fun ls hl => ?_)
  refine lv_iconst (v := 0) (pc := 8) hx hb dX12_carry_8 (by decide) ?_
  refine lv_istore (lv' := [(6, .int 0), (5, .int (nI v9)), (0, .ref h0), (1, .int (nI i)), (2, .long lo), (4, .int wo)]) (pc := 9) hx hb dX12_carry_9 hl (by decide) rfl (fun ls hl => ?_)
  have loop1 : ∀ (fu1 : Nat) (j1 : Nat) (fb30_1 : Nat → Int32) (fb31_1 : Nat → Int32), (pe < fu1 + j1) → (j1 ≤ pe) → ((fb30_1, fb31_1) = L1_X12_carry rK v9 aF oN j1) → ∀ (H : Heap) (locs : List Loc) (ls : Array Slot), WD g A s H locs [(h0, .inr (12, vs)), (b6, .inl (g.2.1 1, 11, .inl rP)), (b8, .inl (g.2.1 1, 11, .inl rD)), (b9, .inl (g.2.1 1, 44, .inl rK)), (b11, .inl (g.2.1 1, 44, .inl rS)), (b21, .inl (g.2.1 1, 12, .inl pO)), (b22, .inl (g.2.1 1, 12, .inl pC)), (b23, .inl (g.2.1 1, 480, .inl pH)), (b24, .inl (g.2.1 1, 480, .inl pK)), (b25, .inl (g.2.1 1, 480, .inl pA)), (b28, .inl (g.2.1 1, 40, .inl pW)), (b29, .inl (g.2.1 1, 40, .inl pR)), (b30, .inl (g.2.1 1, 175, .inl fb30_1)), (b31, .inl (g.2.1 1, 175, .inl fb31_1)), (b32, .inl (g.2.1 1, 7, .inl fR)), (b33, .inl (g.2.1 1, 7, .inl tW))] → lv_has ls 13 [(6, .int (nI j1)), (5, .int (nI v9)), (0, .ref h0), (1, .int (nI i)), (2, .long lo), (4, .int wo)] → W p l e (RM 1 0 0) s m args below meth c H locs 0 0 Q (F0 m 11 ls []) := by
    intro fu1
    induction fu1 with
    | zero =>
      intro j1 fb30_1 fb31_1 hm1 hj1 hst1
      exact absurd hm1 (by omega)
    | succ fu1 ih1 =>
      intro j1 fb30_1 fb31_1 hm1 hj1 hst1 H locs ls hW hl
      refine lv_iload (pc := 11) hx hb dX12_carry_11 (lv_at hl 0 rfl) ?_
      refine lv_aload_n (pc := 13) hx hb dX12_carry_13 rfl (lv_at hl 2 rfl) ?_
      refine r_get X hW 0 ciX12 6 rfl (by decide) m_1237 rfl h6_ dX12_carry_14 ?_
      refine lv_iload (pc := 17) hx hb dX12_carry_17 (lv_at hl 1 rfl) ?_
      refine r_iald X hW 1 rfl (vp_in_nI (by omega) (by decide)) dX12_carry_19 ?_
      refine lv_topi (fun v2 ev2 => ?_)
      obtain rfl : v2 = rP v9 := ev2.trans (by rw [nI_clamp (by omega)])
      rw [hP]
      refine lv_icmp_ge (tgt := 89) (pc := 20) hx hb dX12_carry_20 rfl (fun c3 => ?_) (fun c3 => ?_)
      · have h4 : pe ≤ j1 := (nI_leI (a := pe) (b := j1) (by omega) (by omega)).mp c3
        have hN1 : j1 = pe := by omega
        rw [hN1] at hst1
        have hs1_0 : fb30_1 = (L1_X12_carry rK v9 aF oN pe).1 := congrArg (fun z => z.1) hst1
        have hs1_1 : fb31_1 = (L1_X12_carry rK v9 aF oN pe).2 := congrArg (fun z => z.2) hst1
        clear hst1
        subst hs1_0
        subst hs1_1
        have hW : WD g A s _ _ [(h0, .inr (12, vs)), (b6, .inl (g.2.1 1, 11, .inl rP)), (b8, .inl (g.2.1 1, 11, .inl rD)), (b9, .inl (g.2.1 1, 44, .inl rK)), (b11, .inl (g.2.1 1, 44, .inl rS)), (b21, .inl (g.2.1 1, 12, .inl pO)), (b22, .inl (g.2.1 1, 12, .inl pC)), (b23, .inl (g.2.1 1, 480, .inl pH)), (b24, .inl (g.2.1 1, 480, .inl pK)), (b25, .inl (g.2.1 1, 480, .inl pA)), (b28, .inl (g.2.1 1, 40, .inl pW)), (b29, .inl (g.2.1 1, 40, .inl pR)), (b30, .inl (g.2.1 1, 175, .inl ((L1_X12_carry rK v9 aF oN pe).1))), (b31, .inl (g.2.1 1, 175, .inl ((L1_X12_carry rK v9 aF oN pe).2))), (b32, .inl (g.2.1 1, 7, .inl fR)), (b33, .inl (g.2.1 1, 7, .inl tW))] := hW
        refine lv_iconst (v := 1) (pc := 89) hx hb dX12_carry_89 (by decide) ?_
        refine lv_istore (lv' := [(6, .int 1), (5, .int (nI v9)), (0, .ref h0), (1, .int (nI i)), (2, .long lo), (4, .int wo)]) (pc := 90) hx hb dX12_carry_90 hl (by decide) rfl (fun ls hl => ?_)
        have loop2 : ∀ (fu2 : Nat) (j2 : Nat) (fb30_2 : Nat → Int32) (fb31_2 : Nat → Int32) (fb32_2 : Nat → Int32) (fb33_2 : Nat → Int32), (24 < fu2 + j2) → (j2 ≤ 24) → ((fb30_2, fb31_2, fb32_2, fb33_2) = L2_X12_carry rD rS pH pK pA pW pR pe i v9 cn lo wo ((L1_X12_carry rK v9 aF oN pe).1) ((L1_X12_carry rK v9 aF oN pe).2) fR tW j2) → ∀ (H : Heap) (locs : List Loc) (ls : Array Slot), WD g A s H locs [(h0, .inr (12, vs)), (b6, .inl (g.2.1 1, 11, .inl rP)), (b8, .inl (g.2.1 1, 11, .inl rD)), (b9, .inl (g.2.1 1, 44, .inl rK)), (b11, .inl (g.2.1 1, 44, .inl rS)), (b21, .inl (g.2.1 1, 12, .inl pO)), (b22, .inl (g.2.1 1, 12, .inl pC)), (b23, .inl (g.2.1 1, 480, .inl pH)), (b24, .inl (g.2.1 1, 480, .inl pK)), (b25, .inl (g.2.1 1, 480, .inl pA)), (b28, .inl (g.2.1 1, 40, .inl pW)), (b29, .inl (g.2.1 1, 40, .inl pR)), (b30, .inl (g.2.1 1, 175, .inl fb30_2)), (b31, .inl (g.2.1 1, 175, .inl fb31_2)), (b32, .inl (g.2.1 1, 7, .inl fb32_2)), (b33, .inl (g.2.1 1, 7, .inl fb33_2))] → lv_has ls 13 [(6, .int (nI (j2 + 1))), (5, .int (nI v9)), (0, .ref h0), (1, .int (nI i)), (2, .long lo), (4, .int wo)] → W p l e (RM 1 0 0) s m args below meth c H locs 0 0 Q (F0 m 92 ls []) := by
          intro fu2
          induction fu2 with
          | zero =>
            intro j2 fb30_2 fb31_2 fb32_2 fb33_2 hm2 hj2 hst2
            exact absurd hm2 (by omega)
          | succ fu2 ih2 =>
            intro j2 fb30_2 fb31_2 fb32_2 fb33_2 hm2 hj2 hst2 H locs ls hW hl
            refine lv_iload (pc := 92) hx hb dX12_carry_92 (lv_at hl 0 rfl) ?_
            refine lv_bipush (v := 24) (pc := 94) hx hb dX12_carry_94 (by decide) ?_
            refine lv_icmp_gt (tgt := 483) (pc := 96) hx hb dX12_carry_96 rfl (fun c5 => ?_) (fun c5 => ?_)
            · have h6 : 24 < (j2 + 1) := (nI_ltI (a := 24) (b := (j2 + 1)) (by omega) (by omega)).mp c5
              have hN2 : j2 = 24 := by omega
              rw [hN2] at hst2
              have hs2_0 : fb30_2 = (L2_X12_carry rD rS pH pK pA pW pR pe i v9 cn lo wo ((L1_X12_carry rK v9 aF oN pe).1) ((L1_X12_carry rK v9 aF oN pe).2) fR tW 24).1 := congrArg (fun z => z.1) hst2
              have hs2_1 : fb31_2 = (L2_X12_carry rD rS pH pK pA pW pR pe i v9 cn lo wo ((L1_X12_carry rK v9 aF oN pe).1) ((L1_X12_carry rK v9 aF oN pe).2) fR tW 24).2.1 := congrArg (fun z => z.2.1) hst2
              have hs2_2 : fb32_2 = (L2_X12_carry rD rS pH pK pA pW pR pe i v9 cn lo wo ((L1_X12_carry rK v9 aF oN pe).1) ((L1_X12_carry rK v9 aF oN pe).2) fR tW 24).2.2.1 := congrArg (fun z => z.2.2.1) hst2
              have hs2_3 : fb33_2 = (L2_X12_carry rD rS pH pK pA pW pR pe i v9 cn lo wo ((L1_X12_carry rK v9 aF oN pe).1) ((L1_X12_carry rK v9 aF oN pe).2) fR tW 24).2.2.2 := congrArg (fun z => z.2.2.2) hst2
              clear hst2
              subst hs2_0
              subst hs2_1
              subst hs2_2
              subst hs2_3
              have hW : WD g A s _ _ [(h0, .inr (12, vs)), (b6, .inl (g.2.1 1, 11, .inl rP)), (b8, .inl (g.2.1 1, 11, .inl rD)), (b9, .inl (g.2.1 1, 44, .inl rK)), (b11, .inl (g.2.1 1, 44, .inl rS)), (b21, .inl (g.2.1 1, 12, .inl pO)), (b22, .inl (g.2.1 1, 12, .inl pC)), (b23, .inl (g.2.1 1, 480, .inl pH)), (b24, .inl (g.2.1 1, 480, .inl pK)), (b25, .inl (g.2.1 1, 480, .inl pA)), (b28, .inl (g.2.1 1, 40, .inl pW)), (b29, .inl (g.2.1 1, 40, .inl pR)), (b30, .inl (g.2.1 1, 175, .inl ((L2_X12_carry rD rS pH pK pA pW pR pe i v9 cn lo wo ((L1_X12_carry rK v9 aF oN pe).1) ((L1_X12_carry rK v9 aF oN pe).2) fR tW 24).1))), (b31, .inl (g.2.1 1, 175, .inl ((L2_X12_carry rD rS pH pK pA pW pR pe i v9 cn lo wo ((L1_X12_carry rK v9 aF oN pe).1) ((L1_X12_carry rK v9 aF oN pe).2) fR tW 24).2.1))), (b32, .inl (g.2.1 1, 7, .inl ((L2_X12_carry rD rS pH pK pA pW pR pe i v9 cn lo wo ((L1_X12_carry rK v9 aF oN pe).1) ((L1_X12_carry rK v9 aF oN pe).2) fR tW 24).2.2.1))), (b33, .inl (g.2.1 1, 7, .inl ((L2_X12_carry rD rS pH pK pA pW pR pe i v9 cn lo wo ((L1_X12_carry rK v9 aF oN pe).1) ((L1_X12_carry rK v9 aF oN pe).2) fR tW 24).2.2.2)))] := hW
              have hF : F_X12_carry rD rK rS pH pK pA pW pR aF oN fR tW pe i v9 cn lo wo = (((L2_X12_carry rD rS pH pK pA pW pR pe i v9 cn lo wo ((L1_X12_carry rK v9 aF oN pe).1) ((L1_X12_carry rK v9 aF oN pe).2) fR tW 24).1), ((L2_X12_carry rD rS pH pK pA pW pR pe i v9 cn lo wo ((L1_X12_carry rK v9 aF oN pe).1) ((L1_X12_carry rK v9 aF oN pe).2) fR tW 24).2.1), ((L2_X12_carry rD rS pH pK pA pW pR pe i v9 cn lo wo ((L1_X12_carry rK v9 aF oN pe).1) ((L1_X12_carry rK v9 aF oN pe).2) fR tW 24).2.2.1), ((L2_X12_carry rD rS pH pK pA pW pR pe i v9 cn lo wo ((L1_X12_carry rK v9 aF oN pe).1) ((L1_X12_carry rK v9 aF oN pe).2) fR tW 24).2.2.2)) := show F_X12_carry rD rK rS pH pK pA pW pR aF oN fR tW pe i v9 cn lo wo = (((L2_X12_carry rD rS pH pK pA pW pR pe i v9 cn lo wo ((L1_X12_carry rK v9 aF oN pe).1) ((L1_X12_carry rK v9 aF oN pe).2) fR tW 24).1), ((L2_X12_carry rD rS pH pK pA pW pR pe i v9 cn lo wo ((L1_X12_carry rK v9 aF oN pe).1) ((L1_X12_carry rK v9 aF oN pe).2) fR tW 24).2.1), ((L2_X12_carry rD rS pH pK pA pW pR pe i v9 cn lo wo ((L1_X12_carry rK v9 aF oN pe).1) ((L1_X12_carry rK v9 aF oN pe).2) fR tW 24).2.2.1), ((L2_X12_carry rD rS pH pK pA pW pR pe i v9 cn lo wo ((L1_X12_carry rK v9 aF oN pe).1) ((L1_X12_carry rK v9 aF oN pe).2) fR tW 24).2.2.2)) from rfl
              exact e_v (u := [(h0, .inr (12, vs)), (b6, .inl (g.2.1 1, 11, .inl rP)), (b8, .inl (g.2.1 1, 11, .inl rD)), (b9, .inl (g.2.1 1, 44, .inl rK)), (b11, .inl (g.2.1 1, 44, .inl rS)), (b21, .inl (g.2.1 1, 12, .inl pO)), (b22, .inl (g.2.1 1, 12, .inl pC)), (b23, .inl (g.2.1 1, 480, .inl pH)), (b24, .inl (g.2.1 1, 480, .inl pK)), (b25, .inl (g.2.1 1, 480, .inl pA)), (b28, .inl (g.2.1 1, 40, .inl pW)), (b29, .inl (g.2.1 1, 40, .inl pR)), (b30, .inl (g.2.1 1, 175, .inl ((L2_X12_carry rD rS pH pK pA pW pR pe i v9 cn lo wo ((L1_X12_carry rK v9 aF oN pe).1) ((L1_X12_carry rK v9 aF oN pe).2) fR tW 24).1))), (b31, .inl (g.2.1 1, 175, .inl ((L2_X12_carry rD rS pH pK pA pW pR pe i v9 cn lo wo ((L1_X12_carry rK v9 aF oN pe).1) ((L1_X12_carry rK v9 aF oN pe).2) fR tW 24).2.1))), (b32, .inl (g.2.1 1, 7, .inl ((L2_X12_carry rD rS pH pK pA pW pR pe i v9 cn lo wo ((L1_X12_carry rK v9 aF oN pe).1) ((L1_X12_carry rK v9 aF oN pe).2) fR tW 24).2.2.1))), (b33, .inl (g.2.1 1, 7, .inl ((L2_X12_carry rD rS pH pK pA pW pR pe i v9 cn lo wo ((L1_X12_carry rK v9 aF oN pe).1) ((L1_X12_carry rK v9 aF oN pe).2) fR tW 24).2.2.2)))]) X hQ hr (hW) [0, 1, 2, 3, 4, 5, 6, 7, 8, 9, 10, 11, 12, 13, 14, 15] rfl rfl (by rw [hF]) ⟨Nat.le_of_ble_eq_true rfl, Nat.le_of_ble_eq_true rfl⟩ dX12_carry_483
            · have h7 : ¬ (24 < (j2 + 1)) := fun q => c5 ((nI_ltI (a := 24) (b := (j2 + 1)) (by omega) (by omega)).mpr q)
              refine lv_iconst (v := 0) (pc := 99) hx hb dX12_carry_99 (by decide) ?_
              refine lv_istore (lv' := [(7, .int 0), (6, .int (nI (j2 + 1))), (5, .int (nI v9)), (0, .ref h0), (1, .int (nI i)), (2, .long lo), (4, .int wo)]) (pc := 100) hx hb dX12_carry_100 hl (by decide) rfl (fun ls hl => ?_)
              have loop3 : ∀ (fu3 : Nat) (j3 : Nat) (fb32_3 : Nat → Int32) (fb33_3 : Nat → Int32), (pe < fu3 + j3) → (j3 ≤ pe) → ((fb32_3, fb33_3) = L3_X12_carry fb32_2 fb33_2 j3) → ∀ (H : Heap) (locs : List Loc) (ls : Array Slot), WD g A s H locs [(h0, .inr (12, vs)), (b6, .inl (g.2.1 1, 11, .inl rP)), (b8, .inl (g.2.1 1, 11, .inl rD)), (b9, .inl (g.2.1 1, 44, .inl rK)), (b11, .inl (g.2.1 1, 44, .inl rS)), (b21, .inl (g.2.1 1, 12, .inl pO)), (b22, .inl (g.2.1 1, 12, .inl pC)), (b23, .inl (g.2.1 1, 480, .inl pH)), (b24, .inl (g.2.1 1, 480, .inl pK)), (b25, .inl (g.2.1 1, 480, .inl pA)), (b28, .inl (g.2.1 1, 40, .inl pW)), (b29, .inl (g.2.1 1, 40, .inl pR)), (b30, .inl (g.2.1 1, 175, .inl fb30_2)), (b31, .inl (g.2.1 1, 175, .inl fb31_2)), (b32, .inl (g.2.1 1, 7, .inl fb32_3)), (b33, .inl (g.2.1 1, 7, .inl fb33_3))] → lv_has ls 13 [(7, .int (nI j3)), (6, .int (nI (j2 + 1))), (5, .int (nI v9)), (0, .ref h0), (1, .int (nI i)), (2, .long lo), (4, .int wo)] → W p l e (RM 1 0 0) s m args below meth c H locs 0 0 Q (F0 m 102 ls []) := by
                intro fu3
                induction fu3 with
                | zero =>
                  intro j3 fb32_3 fb33_3 hm3 hj3 hst3
                  exact absurd hm3 (by omega)
                | succ fu3 ih3 =>
                  intro j3 fb32_3 fb33_3 hm3 hj3 hst3 H locs ls hW hl
                  refine lv_iload (pc := 102) hx hb dX12_carry_102 (lv_at hl 0 rfl) ?_
                  refine lv_aload_n (pc := 104) hx hb dX12_carry_104 rfl (lv_at hl 3 rfl) ?_
                  refine r_get X hW 0 ciX12 6 rfl (by decide) m_1237 rfl h6_ dX12_carry_105 ?_
                  refine lv_iload (pc := 108) hx hb dX12_carry_108 (lv_at hl 2 rfl) ?_
                  refine r_iald X hW 1 rfl (vp_in_nI (by omega) (by decide)) dX12_carry_110 ?_
                  refine lv_topi (fun v8 ev8 => ?_)
                  obtain rfl : v8 = rP v9 := ev8.trans (by rw [nI_clamp (by omega)])
                  rw [hP]
                  refine lv_icmp_ge (tgt := 136) (pc := 111) hx hb dX12_carry_111 rfl (fun c9 => ?_) (fun c9 => ?_)
                  · have h10 : pe ≤ j3 := (nI_leI (a := pe) (b := j3) (by omega) (by omega)).mp c9
                    have hN3 : j3 = pe := by omega
                    rw [hN3] at hst3
                    have hs3_0 : fb32_3 = (L3_X12_carry fb32_2 fb33_2 pe).1 := congrArg (fun z => z.1) hst3
                    have hs3_1 : fb33_3 = (L3_X12_carry fb32_2 fb33_2 pe).2 := congrArg (fun z => z.2) hst3
                    clear hst3
                    subst hs3_0
                    subst hs3_1
                    have hW : WD g A s _ _ [(h0, .inr (12, vs)), (b6, .inl (g.2.1 1, 11, .inl rP)), (b8, .inl (g.2.1 1, 11, .inl rD)), (b9, .inl (g.2.1 1, 44, .inl rK)), (b11, .inl (g.2.1 1, 44, .inl rS)), (b21, .inl (g.2.1 1, 12, .inl pO)), (b22, .inl (g.2.1 1, 12, .inl pC)), (b23, .inl (g.2.1 1, 480, .inl pH)), (b24, .inl (g.2.1 1, 480, .inl pK)), (b25, .inl (g.2.1 1, 480, .inl pA)), (b28, .inl (g.2.1 1, 40, .inl pW)), (b29, .inl (g.2.1 1, 40, .inl pR)), (b30, .inl (g.2.1 1, 175, .inl fb30_2)), (b31, .inl (g.2.1 1, 175, .inl fb31_2)), (b32, .inl (g.2.1 1, 7, .inl ((L3_X12_carry fb32_2 fb33_2 pe).1))), (b33, .inl (g.2.1 1, 7, .inl ((L3_X12_carry fb32_2 fb33_2 pe).2)))] := hW
                    refine lv_iconst (v := 0) (pc := 136) hx hb dX12_carry_136 (by decide) ?_
                    refine lv_istore (lv' := [(7, .int 0), (6, .int (nI (j2 + 1))), (5, .int (nI v9)), (0, .ref h0), (1, .int (nI i)), (2, .long lo), (4, .int wo)]) (pc := 137) hx hb dX12_carry_137 hl (by decide) rfl (fun ls hl => ?_)
                    have loop4 : ∀ (fu4 : Nat) (j4 : Nat) (fb32_4 : Nat → Int32) (fb33_4 : Nat → Int32), (cn < fu4 + j4) → (j4 ≤ cn) → ((fb32_4, fb33_4) = L4_X12_carry rD rS pH pK pA pW pR pe i v9 lo wo j2 fb30_2 fb31_2 ((L3_X12_carry fb32_2 fb33_2 pe).1) ((L3_X12_carry fb32_2 fb33_2 pe).2) j4) → ∀ (H : Heap) (locs : List Loc) (ls : Array Slot), WD g A s H locs [(h0, .inr (12, vs)), (b6, .inl (g.2.1 1, 11, .inl rP)), (b8, .inl (g.2.1 1, 11, .inl rD)), (b9, .inl (g.2.1 1, 44, .inl rK)), (b11, .inl (g.2.1 1, 44, .inl rS)), (b21, .inl (g.2.1 1, 12, .inl pO)), (b22, .inl (g.2.1 1, 12, .inl pC)), (b23, .inl (g.2.1 1, 480, .inl pH)), (b24, .inl (g.2.1 1, 480, .inl pK)), (b25, .inl (g.2.1 1, 480, .inl pA)), (b28, .inl (g.2.1 1, 40, .inl pW)), (b29, .inl (g.2.1 1, 40, .inl pR)), (b30, .inl (g.2.1 1, 175, .inl fb30_2)), (b31, .inl (g.2.1 1, 175, .inl fb31_2)), (b32, .inl (g.2.1 1, 7, .inl fb32_4)), (b33, .inl (g.2.1 1, 7, .inl fb33_4))] → lv_has ls 13 [(7, .int (nI j4)), (6, .int (nI (j2 + 1))), (5, .int (nI v9)), (0, .ref h0), (1, .int (nI i)), (2, .long lo), (4, .int wo)] → W p l e (RM 1 0 0) s m args below meth c H locs 0 0 Q (F0 m 139 ls []) := by
                      intro fu4
                      induction fu4 with
                      | zero =>
                        intro j4 fb32_4 fb33_4 hm4 hj4 hst4
                        exact absurd hm4 (by omega)
                      | succ fu4 ih4 =>
                        intro j4 fb32_4 fb33_4 hm4 hj4 hst4 H locs ls hW hl
                        refine lv_iload (pc := 139) hx hb dX12_carry_139 (lv_at hl 0 rfl) ?_
                        refine lv_aload_n (pc := 141) hx hb dX12_carry_141 rfl (lv_at hl 3 rfl) ?_
                        refine r_get X hW 0 ciX12 22 rfl (by decide) m_1253 rfl h22_ dX12_carry_142 ?_
                        refine lv_iload_n (pc := 145) hx hb dX12_carry_145 rfl (lv_at hl 4 rfl) ?_
                        refine r_iald X hW 6 rfl (vp_in_nI (by omega) (by decide)) dX12_carry_146 ?_
                        refine lv_topi (fun v11 ev11 => ?_)
                        obtain rfl : v11 = pC i := ev11.trans (by rw [nI_clamp (by omega)])
                        rw [hC]
                        refine lv_icmp_ge (tgt := 388) (pc := 147) hx hb dX12_carry_147 rfl (fun c12 => ?_) (fun c12 => ?_)
                        · have h13 : cn ≤ j4 := (nI_leI (a := cn) (b := j4) (by omega) (by omega)).mp c12
                          have hN4 : j4 = cn := by omega
                          rw [hN4] at hst4
                          have hs4_0 : fb32_4 = (L4_X12_carry rD rS pH pK pA pW pR pe i v9 lo wo j2 fb30_2 fb31_2 ((L3_X12_carry fb32_2 fb33_2 pe).1) ((L3_X12_carry fb32_2 fb33_2 pe).2) cn).1 := congrArg (fun z => z.1) hst4
                          have hs4_1 : fb33_4 = (L4_X12_carry rD rS pH pK pA pW pR pe i v9 lo wo j2 fb30_2 fb31_2 ((L3_X12_carry fb32_2 fb33_2 pe).1) ((L3_X12_carry fb32_2 fb33_2 pe).2) cn).2 := congrArg (fun z => z.2) hst4
                          clear hst4
                          subst hs4_0
                          subst hs4_1
                          have hW : WD g A s _ _ [(h0, .inr (12, vs)), (b6, .inl (g.2.1 1, 11, .inl rP)), (b8, .inl (g.2.1 1, 11, .inl rD)), (b9, .inl (g.2.1 1, 44, .inl rK)), (b11, .inl (g.2.1 1, 44, .inl rS)), (b21, .inl (g.2.1 1, 12, .inl pO)), (b22, .inl (g.2.1 1, 12, .inl pC)), (b23, .inl (g.2.1 1, 480, .inl pH)), (b24, .inl (g.2.1 1, 480, .inl pK)), (b25, .inl (g.2.1 1, 480, .inl pA)), (b28, .inl (g.2.1 1, 40, .inl pW)), (b29, .inl (g.2.1 1, 40, .inl pR)), (b30, .inl (g.2.1 1, 175, .inl fb30_2)), (b31, .inl (g.2.1 1, 175, .inl fb31_2)), (b32, .inl (g.2.1 1, 7, .inl ((L4_X12_carry rD rS pH pK pA pW pR pe i v9 lo wo j2 fb30_2 fb31_2 ((L3_X12_carry fb32_2 fb33_2 pe).1) ((L3_X12_carry fb32_2 fb33_2 pe).2) cn).1))), (b33, .inl (g.2.1 1, 7, .inl ((L4_X12_carry rD rS pH pK pA pW pR pe i v9 lo wo j2 fb30_2 fb31_2 ((L3_X12_carry fb32_2 fb33_2 pe).1) ((L3_X12_carry fb32_2 fb33_2 pe).2) cn).2)))] := hW
                          refine lv_iconst (v := 0) (pc := 388) hx hb dX12_carry_388 (by decide) ?_
                          refine lv_istore (lv' := [(7, .int 0), (6, .int (nI (j2 + 1))), (5, .int (nI v9)), (0, .ref h0), (1, .int (nI i)), (2, .long lo), (4, .int wo)]) (pc := 389) hx hb dX12_carry_389 hl (by decide) rfl (fun ls hl => ?_)
                          have loop5 : ∀ (fu5 : Nat) (j5 : Nat) (fb30_5 : Nat → Int32) (fb31_5 : Nat → Int32), (pe < fu5 + j5) → (j5 ≤ pe) → ((fb30_5, fb31_5) = L5_X12_carry rD rS pH pK pA pW pR pe i v9 cn lo wo j2 fb30_2 fb31_2 fb32_2 fb33_2 fb30_2 fb31_2 j5) → ∀ (H : Heap) (locs : List Loc) (ls : Array Slot), WD g A s H locs [(h0, .inr (12, vs)), (b6, .inl (g.2.1 1, 11, .inl rP)), (b8, .inl (g.2.1 1, 11, .inl rD)), (b9, .inl (g.2.1 1, 44, .inl rK)), (b11, .inl (g.2.1 1, 44, .inl rS)), (b21, .inl (g.2.1 1, 12, .inl pO)), (b22, .inl (g.2.1 1, 12, .inl pC)), (b23, .inl (g.2.1 1, 480, .inl pH)), (b24, .inl (g.2.1 1, 480, .inl pK)), (b25, .inl (g.2.1 1, 480, .inl pA)), (b28, .inl (g.2.1 1, 40, .inl pW)), (b29, .inl (g.2.1 1, 40, .inl pR)), (b30, .inl (g.2.1 1, 175, .inl fb30_5)), (b31, .inl (g.2.1 1, 175, .inl fb31_5)), (b32, .inl (g.2.1 1, 7, .inl ((L4_X12_carry rD rS pH pK pA pW pR pe i v9 lo wo j2 fb30_2 fb31_2 ((L3_X12_carry fb32_2 fb33_2 pe).1) ((L3_X12_carry fb32_2 fb33_2 pe).2) cn).1))), (b33, .inl (g.2.1 1, 7, .inl ((L4_X12_carry rD rS pH pK pA pW pR pe i v9 lo wo j2 fb30_2 fb31_2 ((L3_X12_carry fb32_2 fb33_2 pe).1) ((L3_X12_carry fb32_2 fb33_2 pe).2) cn).2)))] → lv_has ls 13 [(7, .int (nI j5)), (6, .int (nI (j2 + 1))), (5, .int (nI v9)), (0, .ref h0), (1, .int (nI i)), (2, .long lo), (4, .int wo)] → W p l e (RM 1 0 0) s m args below meth c H locs 0 0 Q (F0 m 391 ls []) := by
                            intro fu5
                            induction fu5 with
                            | zero =>
                              intro j5 fb30_5 fb31_5 hm5 hj5 hst5
                              exact absurd hm5 (by omega)
                            | succ fu5 ih5 =>
                              intro j5 fb30_5 fb31_5 hm5 hj5 hst5 H locs ls hW hl
                              refine lv_iload (pc := 391) hx hb dX12_carry_391 (lv_at hl 0 rfl) ?_
                              refine lv_aload_n (pc := 393) hx hb dX12_carry_393 rfl (lv_at hl 3 rfl) ?_
                              refine r_get X hW 0 ciX12 6 rfl (by decide) m_1237 rfl h6_ dX12_carry_394 ?_
                              refine lv_iload (pc := 397) hx hb dX12_carry_397 (lv_at hl 2 rfl) ?_
                              refine r_iald X hW 1 rfl (vp_in_nI (by omega) (by decide)) dX12_carry_399 ?_
                              refine lv_topi (fun v14 ev14 => ?_)
                              obtain rfl : v14 = rP v9 := ev14.trans (by rw [nI_clamp (by omega)])
                              rw [hP]
                              refine lv_icmp_ge (tgt := 477) (pc := 400) hx hb dX12_carry_400 rfl (fun c15 => ?_) (fun c15 => ?_)
                              · have h16 : pe ≤ j5 := (nI_leI (a := pe) (b := j5) (by omega) (by omega)).mp c15
                                have hN5 : j5 = pe := by omega
                                rw [hN5] at hst5
                                have hs5_0 : fb30_5 = (L5_X12_carry rD rS pH pK pA pW pR pe i v9 cn lo wo j2 fb30_2 fb31_2 fb32_2 fb33_2 fb30_2 fb31_2 pe).1 := congrArg (fun z => z.1) hst5
                                have hs5_1 : fb31_5 = (L5_X12_carry rD rS pH pK pA pW pR pe i v9 cn lo wo j2 fb30_2 fb31_2 fb32_2 fb33_2 fb30_2 fb31_2 pe).2 := congrArg (fun z => z.2) hst5
                                clear hst5
                                subst hs5_0
                                subst hs5_1
                                have hW : WD g A s _ _ [(h0, .inr (12, vs)), (b6, .inl (g.2.1 1, 11, .inl rP)), (b8, .inl (g.2.1 1, 11, .inl rD)), (b9, .inl (g.2.1 1, 44, .inl rK)), (b11, .inl (g.2.1 1, 44, .inl rS)), (b21, .inl (g.2.1 1, 12, .inl pO)), (b22, .inl (g.2.1 1, 12, .inl pC)), (b23, .inl (g.2.1 1, 480, .inl pH)), (b24, .inl (g.2.1 1, 480, .inl pK)), (b25, .inl (g.2.1 1, 480, .inl pA)), (b28, .inl (g.2.1 1, 40, .inl pW)), (b29, .inl (g.2.1 1, 40, .inl pR)), (b30, .inl (g.2.1 1, 175, .inl ((L5_X12_carry rD rS pH pK pA pW pR pe i v9 cn lo wo j2 fb30_2 fb31_2 fb32_2 fb33_2 fb30_2 fb31_2 pe).1))), (b31, .inl (g.2.1 1, 175, .inl ((L5_X12_carry rD rS pH pK pA pW pR pe i v9 cn lo wo j2 fb30_2 fb31_2 fb32_2 fb33_2 fb30_2 fb31_2 pe).2))), (b32, .inl (g.2.1 1, 7, .inl ((L4_X12_carry rD rS pH pK pA pW pR pe i v9 lo wo j2 fb30_2 fb31_2 ((L3_X12_carry fb32_2 fb33_2 pe).1) ((L3_X12_carry fb32_2 fb33_2 pe).2) cn).1))), (b33, .inl (g.2.1 1, 7, .inl ((L4_X12_carry rD rS pH pK pA pW pR pe i v9 lo wo j2 fb30_2 fb31_2 ((L3_X12_carry fb32_2 fb33_2 pe).1) ((L3_X12_carry fb32_2 fb33_2 pe).2) cn).2)))] := hW
                                refine lv_iinc (v := nI (j2 + 1 + 1)) (lv' := [(6, .int (nI (j2 + 1 + 1))), (7, .int (nI j5)), (5, .int (nI v9)), (0, .ref h0), (1, .int (nI i)), (2, .long lo), (4, .int wo)]) (pc := 477) hx hb dX12_carry_477 hl (k := 1) rfl (nI_add (j2 + 1) 1) (by decide) rfl (fun ls hl => ?_)
                                refine lv_goto (tgt := 92) (pc := 480) hx hb dX12_carry_480 rfl ?_
                                exact ih2 (j2 + 1) ((L5_X12_carry rD rS pH pK pA pW pR pe i v9 cn lo wo j2 fb30_2 fb31_2 fb32_2 fb33_2 fb30_2 fb31_2 pe).1) ((L5_X12_carry rD rS pH pK pA pW pR pe i v9 cn lo wo j2 fb30_2 fb31_2 fb32_2 fb33_2 fb30_2 fb31_2 pe).2) ((L4_X12_carry rD rS pH pK pA pW pR pe i v9 lo wo j2 fb30_2 fb31_2 ((L3_X12_carry fb32_2 fb33_2 pe).1) ((L3_X12_carry fb32_2 fb33_2 pe).2) cn).1) ((L4_X12_carry rD rS pH pK pA pW pR pe i v9 lo wo j2 fb30_2 fb31_2 ((L3_X12_carry fb32_2 fb33_2 pe).1) ((L3_X12_carry fb32_2 fb33_2 pe).2) cn).2) (by omega) (by omega) (by rw [L2_X12_carry, ← hst2]; exact (show L2_X12_carrys rD rS pH pK pA pW pR pe i v9 cn lo wo j2 fb30_2 fb31_2 fb32_2 fb33_2 = (((L5_X12_carry rD rS pH pK pA pW pR pe i v9 cn lo wo j2 fb30_2 fb31_2 fb32_2 fb33_2 fb30_2 fb31_2 pe).1), ((L5_X12_carry rD rS pH pK pA pW pR pe i v9 cn lo wo j2 fb30_2 fb31_2 fb32_2 fb33_2 fb30_2 fb31_2 pe).2), ((L4_X12_carry rD rS pH pK pA pW pR pe i v9 lo wo j2 fb30_2 fb31_2 ((L3_X12_carry fb32_2 fb33_2 pe).1) ((L3_X12_carry fb32_2 fb33_2 pe).2) cn).1), ((L4_X12_carry rD rS pH pK pA pW pR pe i v9 lo wo j2 fb30_2 fb31_2 ((L3_X12_carry fb32_2 fb33_2 pe).1) ((L3_X12_carry fb32_2 fb33_2 pe).2) cn).2)) from rfl).symm) _ _ _ hW (lv_sub hl [0, 2, 3, 4, 5, 6] rfl)
                              · have h17 : ¬ (pe ≤ j5) := fun q => c15 ((nI_leI (a := pe) (b := j5) (by omega) (by omega)).mpr q)
                                refine lv_bipush (v := 7) (pc := 403) hx hb dX12_carry_403 (by decide) ?_
                                refine lv_iload (pc := 405) hx hb dX12_carry_405 (lv_at hl 1 rfl) ?_
                                refine lv_iconst (v := 1) (pc := 407) hx hb dX12_carry_407 (by decide) ?_
                                refine lv_isub (pc := 408) hx hb dX12_carry_408 ?_
                                refine lv_topi (fun v18 ev18 => ?_)
                                obtain rfl : v18 = nI (j2 + 1 - 1) := ev18.trans (pk_sub (a := (j2 + 1)) (b := 1) (by omega))
                                refine lv_imul (pc := 409) hx hb dX12_carry_409 ?_
                                refine lv_topi (fun v19 ev19 => ?_)
                                obtain rfl : v19 = nI (7 * (j2 + 1 - 1)) := ev19.trans (pk_mul 7 (j2 + 1 - 1))
                                refine lv_iload (pc := 410) hx hb dX12_carry_410 (lv_at hl 0 rfl) ?_
                                refine lv_iadd (pc := 412) hx hb dX12_carry_412 ?_
                                refine lv_topi (fun v20 ev20 => ?_)
                                obtain rfl : v20 = nI (7 * (j2 + 1 - 1) + j5) := ev20.trans (nI_add _ _)
                                refine lv_istore (lv' := [(8, .int (nI (7 * (j2 + 1 - 1) + j5))), (7, .int (nI j5)), (6, .int (nI (j2 + 1))), (5, .int (nI v9)), (0, .ref h0), (1, .int (nI i)), (2, .long lo), (4, .int wo)]) (pc := 413) hx hb dX12_carry_413 hl (by decide) rfl (fun ls hl => ?_)
                                refine lv_aload_n (pc := 415) hx hb dX12_carry_415 rfl (lv_at hl 4 rfl) ?_
                                refine r_get X hW 0 ciX12 30 rfl (by decide) m_1261 rfl h30_ dX12_carry_416 ?_
                                refine lv_bipush (v := 7) (pc := 419) hx hb dX12_carry_419 (by decide) ?_
                                refine lv_iload (pc := 421) hx hb dX12_carry_421 (lv_at hl 2 rfl) ?_
                                refine lv_imul (pc := 423) hx hb dX12_carry_423 ?_
                                refine lv_topi (fun v21 ev21 => ?_)
                                obtain rfl : v21 = nI (7 * (j2 + 1)) := ev21.trans (pk_mul 7 (j2 + 1))
                                refine lv_iload (pc := 424) hx hb dX12_carry_424 (lv_at hl 1 rfl) ?_
                                refine lv_iadd (pc := 426) hx hb dX12_carry_426 ?_
                                refine lv_topi (fun v22 ev22 => ?_)
                                obtain rfl : v22 = nI (7 * (j2 + 1) + j5) := ev22.trans (nI_add _ _)
                                refine lv_aload_n (pc := 427) hx hb dX12_carry_427 rfl (lv_at hl 4 rfl) ?_
                                refine r_get X hW 0 ciX12 30 rfl (by decide) m_1261 rfl h30_ dX12_carry_428 ?_
                                refine lv_iload (pc := 431) hx hb dX12_carry_431 (lv_at hl 0 rfl) ?_
                                refine r_iald X hW 12 rfl (vp_in_nI (by omega) (by decide)) dX12_carry_433 ?_
                                refine lv_topi (fun v23 ev23 => ?_)
                                obtain rfl : v23 = fb30_5 (7 * (j2 + 1 - 1) + j5) := ev23.trans (by rw [nI_clamp (by omega)])
                                refine lv_aload_n (pc := 434) hx hb dX12_carry_434 rfl (lv_at hl 4 rfl) ?_
                                refine r_get X hW 0 ciX12 32 rfl (by decide) m_1263 rfl h32_ dX12_carry_435 ?_
                                refine lv_iload (pc := 438) hx hb dX12_carry_438 (lv_at hl 1 rfl) ?_
                                refine r_iald X hW 14 rfl (vp_in_nI (by omega) (by decide)) dX12_carry_440 ?_
                                refine lv_topi (fun v24 ev24 => ?_)
                                obtain rfl : v24 = ((L4_X12_carry rD rS pH pK pA pW pR pe i v9 lo wo j2 fb30_2 fb31_2 ((L3_X12_carry fb32_2 fb33_2 pe).1) ((L3_X12_carry fb32_2 fb33_2 pe).2) cn).1) j5 := ev24.trans (by rw [nI_clamp (by omega)])
                                refine lv_ior (pc := 441) hx hb dX12_carry_441 ?_
                                refine r_iast (ws' := [(h0, .inr (12, vs)), (b6, .inl (g.2.1 1, 11, .inl rP)), (b8, .inl (g.2.1 1, 11, .inl rD)), (b9, .inl (g.2.1 1, 44, .inl rK)), (b11, .inl (g.2.1 1, 44, .inl rS)), (b21, .inl (g.2.1 1, 12, .inl pO)), (b22, .inl (g.2.1 1, 12, .inl pC)), (b23, .inl (g.2.1 1, 480, .inl pH)), (b24, .inl (g.2.1 1, 480, .inl pK)), (b25, .inl (g.2.1 1, 480, .inl pA)), (b28, .inl (g.2.1 1, 40, .inl pW)), (b29, .inl (g.2.1 1, 40, .inl pR)), (b30, .inl (g.2.1 1, 175, .inl (upd fb30_5 (7 * (j2 + 1) + j5) ((fb30_5 (7 * (j2 + 1 - 1) + j5)) ||| (((L4_X12_carry rD rS pH pK pA pW pR pe i v9 lo wo j2 fb30_2 fb31_2 ((L3_X12_carry fb32_2 fb33_2 pe).1) ((L3_X12_carry fb32_2 fb33_2 pe).2) cn).1) j5))))), (b31, .inl (g.2.1 1, 175, .inl fb31_5)), (b32, .inl (g.2.1 1, 7, .inl ((L4_X12_carry rD rS pH pK pA pW pR pe i v9 lo wo j2 fb30_2 fb31_2 ((L3_X12_carry fb32_2 fb33_2 pe).1) ((L3_X12_carry fb32_2 fb33_2 pe).2) cn).1))), (b33, .inl (g.2.1 1, 7, .inl ((L4_X12_carry rD rS pH pK pA pW pR pe i v9 lo wo j2 fb30_2 fb31_2 ((L3_X12_carry fb32_2 fb33_2 pe).1) ((L3_X12_carry fb32_2 fb33_2 pe).2) cn).2)))]) X hW 12 rfl (vp_in_nI (by omega) (by decide)) (f' := (upd fb30_5 (7 * (j2 + 1) + j5) ((fb30_5 (7 * (j2 + 1 - 1) + j5)) ||| (((L4_X12_carry rD rS pH pK pA pW pR pe i v9 lo wo j2 fb30_2 fb31_2 ((L3_X12_carry fb32_2 fb33_2 pe).1) ((L3_X12_carry fb32_2 fb33_2 pe).2) cn).1) j5)))) (by rw [nI_clamp (by omega)]) rfl dX12_carry_442 (fun H locs hW => ?_)
                                refine lv_aload_n (pc := 443) hx hb dX12_carry_443 rfl (lv_at hl 4 rfl) ?_
                                refine r_get X hW 0 ciX12 31 rfl (by decide) m_1262 rfl h31_ dX12_carry_444 ?_
                                refine lv_bipush (v := 7) (pc := 447) hx hb dX12_carry_447 (by decide) ?_
                                refine lv_iload (pc := 449) hx hb dX12_carry_449 (lv_at hl 2 rfl) ?_
                                refine lv_imul (pc := 451) hx hb dX12_carry_451 ?_
                                refine lv_topi (fun v25 ev25 => ?_)
                                obtain rfl : v25 = nI (7 * (j2 + 1)) := ev25.trans (pk_mul 7 (j2 + 1))
                                refine lv_iload (pc := 452) hx hb dX12_carry_452 (lv_at hl 1 rfl) ?_
                                refine lv_iadd (pc := 454) hx hb dX12_carry_454 ?_
                                refine lv_topi (fun v26 ev26 => ?_)
                                obtain rfl : v26 = nI (7 * (j2 + 1) + j5) := ev26.trans (nI_add _ _)
                                refine lv_aload_n (pc := 455) hx hb dX12_carry_455 rfl (lv_at hl 4 rfl) ?_
                                refine r_get X hW 0 ciX12 31 rfl (by decide) m_1262 rfl h31_ dX12_carry_456 ?_
                                refine lv_iload (pc := 459) hx hb dX12_carry_459 (lv_at hl 0 rfl) ?_
                                refine r_iald X hW 13 rfl (vp_in_nI (by omega) (by decide)) dX12_carry_461 ?_
                                refine lv_topi (fun v27 ev27 => ?_)
                                obtain rfl : v27 = fb31_5 (7 * (j2 + 1 - 1) + j5) := ev27.trans (by rw [nI_clamp (by omega)])
                                refine lv_aload_n (pc := 462) hx hb dX12_carry_462 rfl (lv_at hl 4 rfl) ?_
                                refine r_get X hW 0 ciX12 33 rfl (by decide) m_1264 rfl h33_ dX12_carry_463 ?_
                                refine lv_iload (pc := 466) hx hb dX12_carry_466 (lv_at hl 1 rfl) ?_
                                refine r_iald X hW 15 rfl (vp_in_nI (by omega) (by decide)) dX12_carry_468 ?_
                                refine lv_topi (fun v28 ev28 => ?_)
                                obtain rfl : v28 = ((L4_X12_carry rD rS pH pK pA pW pR pe i v9 lo wo j2 fb30_2 fb31_2 ((L3_X12_carry fb32_2 fb33_2 pe).1) ((L3_X12_carry fb32_2 fb33_2 pe).2) cn).2) j5 := ev28.trans (by rw [nI_clamp (by omega)])
                                refine lv_ior (pc := 469) hx hb dX12_carry_469 ?_
                                refine r_iast (ws' := [(h0, .inr (12, vs)), (b6, .inl (g.2.1 1, 11, .inl rP)), (b8, .inl (g.2.1 1, 11, .inl rD)), (b9, .inl (g.2.1 1, 44, .inl rK)), (b11, .inl (g.2.1 1, 44, .inl rS)), (b21, .inl (g.2.1 1, 12, .inl pO)), (b22, .inl (g.2.1 1, 12, .inl pC)), (b23, .inl (g.2.1 1, 480, .inl pH)), (b24, .inl (g.2.1 1, 480, .inl pK)), (b25, .inl (g.2.1 1, 480, .inl pA)), (b28, .inl (g.2.1 1, 40, .inl pW)), (b29, .inl (g.2.1 1, 40, .inl pR)), (b30, .inl (g.2.1 1, 175, .inl (upd fb30_5 (7 * (j2 + 1) + j5) ((fb30_5 (7 * (j2 + 1 - 1) + j5)) ||| (((L4_X12_carry rD rS pH pK pA pW pR pe i v9 lo wo j2 fb30_2 fb31_2 ((L3_X12_carry fb32_2 fb33_2 pe).1) ((L3_X12_carry fb32_2 fb33_2 pe).2) cn).1) j5))))), (b31, .inl (g.2.1 1, 175, .inl (upd fb31_5 (7 * (j2 + 1) + j5) ((fb31_5 (7 * (j2 + 1 - 1) + j5)) ||| (((L4_X12_carry rD rS pH pK pA pW pR pe i v9 lo wo j2 fb30_2 fb31_2 ((L3_X12_carry fb32_2 fb33_2 pe).1) ((L3_X12_carry fb32_2 fb33_2 pe).2) cn).2) j5))))), (b32, .inl (g.2.1 1, 7, .inl ((L4_X12_carry rD rS pH pK pA pW pR pe i v9 lo wo j2 fb30_2 fb31_2 ((L3_X12_carry fb32_2 fb33_2 pe).1) ((L3_X12_carry fb32_2 fb33_2 pe).2) cn).1))), (b33, .inl (g.2.1 1, 7, .inl ((L4_X12_carry rD rS pH pK pA pW pR pe i v9 lo wo j2 fb30_2 fb31_2 ((L3_X12_carry fb32_2 fb33_2 pe).1) ((L3_X12_carry fb32_2 fb33_2 pe).2) cn).2)))]) X hW 13 rfl (vp_in_nI (by omega) (by decide)) (f' := (upd fb31_5 (7 * (j2 + 1) + j5) ((fb31_5 (7 * (j2 + 1 - 1) + j5)) ||| (((L4_X12_carry rD rS pH pK pA pW pR pe i v9 lo wo j2 fb30_2 fb31_2 ((L3_X12_carry fb32_2 fb33_2 pe).1) ((L3_X12_carry fb32_2 fb33_2 pe).2) cn).2) j5)))) (by rw [nI_clamp (by omega)]) rfl dX12_carry_470 (fun H locs hW => ?_)
                                refine lv_iinc (v := nI (j5 + 1)) (lv' := [(7, .int (nI (j5 + 1))), (8, .int (nI (7 * (j2 + 1 - 1) + j5))), (6, .int (nI (j2 + 1))), (5, .int (nI v9)), (0, .ref h0), (1, .int (nI i)), (2, .long lo), (4, .int wo)]) (pc := 471) hx hb dX12_carry_471 hl (k := 1) rfl (nI_add j5 1) (by decide) rfl (fun ls hl => ?_)
                                refine lv_goto (tgt := 391) (pc := 474) hx hb dX12_carry_474 rfl ?_
                                exact ih5 (j5 + 1) (upd fb30_5 (7 * (j2 + 1) + j5) ((fb30_5 (7 * (j2 + 1 - 1) + j5)) ||| (((L4_X12_carry rD rS pH pK pA pW pR pe i v9 lo wo j2 fb30_2 fb31_2 ((L3_X12_carry fb32_2 fb33_2 pe).1) ((L3_X12_carry fb32_2 fb33_2 pe).2) cn).1) j5))) (upd fb31_5 (7 * (j2 + 1) + j5) ((fb31_5 (7 * (j2 + 1 - 1) + j5)) ||| (((L4_X12_carry rD rS pH pK pA pW pR pe i v9 lo wo j2 fb30_2 fb31_2 ((L3_X12_carry fb32_2 fb33_2 pe).1) ((L3_X12_carry fb32_2 fb33_2 pe).2) cn).2) j5))) (by omega) (by omega) (by rw [L5_X12_carry, ← hst5]; exact (show L5_X12_carrys rD rS pH pK pA pW pR pe i v9 cn lo wo j2 fb30_2 fb31_2 fb32_2 fb33_2 j5 fb30_5 fb31_5 = ((upd fb30_5 (7 * (j2 + 1) + j5) ((fb30_5 (7 * (j2 + 1 - 1) + j5)) ||| (((L4_X12_carry rD rS pH pK pA pW pR pe i v9 lo wo j2 fb30_2 fb31_2 ((L3_X12_carry fb32_2 fb33_2 pe).1) ((L3_X12_carry fb32_2 fb33_2 pe).2) cn).1) j5))), (upd fb31_5 (7 * (j2 + 1) + j5) ((fb31_5 (7 * (j2 + 1 - 1) + j5)) ||| (((L4_X12_carry rD rS pH pK pA pW pR pe i v9 lo wo j2 fb30_2 fb31_2 ((L3_X12_carry fb32_2 fb33_2 pe).1) ((L3_X12_carry fb32_2 fb33_2 pe).2) cn).2) j5)))) from rfl).symm) _ _ _ hW (lv_sub hl [0, 2, 3, 4, 5, 6, 7] rfl)
                          exact loop5 (pe + 1) 0 fb30_2 fb31_2 (by omega) (by omega) rfl _ _ _ hW (lv_sub hl [0, 1, 2, 3, 4, 5, 6] rfl)
                        · have h29 : ¬ (cn ≤ j4) := fun q => c12 ((nI_leI (a := cn) (b := j4) (by omega) (by omega)).mpr q)
                          refine lv_bipush (v := 40) (pc := 150) hx hb dX12_carry_150 (by decide) ?_
                          refine lv_iload_n (pc := 152) hx hb dX12_carry_152 rfl (lv_at hl 4 rfl) ?_
                          refine lv_imul (pc := 153) hx hb dX12_carry_153 ?_
                          refine lv_topi (fun v30 ev30 => ?_)
                          obtain rfl : v30 = nI (40 * i) := ev30.trans (pk_mul 40 i)
                          refine lv_iload (pc := 154) hx hb dX12_carry_154 (lv_at hl 0 rfl) ?_
                          refine lv_iadd (pc := 156) hx hb dX12_carry_156 ?_
                          refine lv_topi (fun v31 ev31 => ?_)
                          obtain rfl : v31 = nI (40 * i + j4) := ev31.trans (nI_add _ _)
                          refine lv_istore (lv' := [(8, .int (nI (40 * i + j4))), (7, .int (nI j4)), (6, .int (nI (j2 + 1))), (5, .int (nI v9)), (0, .ref h0), (1, .int (nI i)), (2, .long lo), (4, .int wo)]) (pc := 157) hx hb dX12_carry_157 hl (by decide) rfl (fun ls hl => ?_)
                          refine lv_aload_n (pc := 159) hx hb dX12_carry_159 rfl (lv_at hl 4 rfl) ?_
                          refine r_get X hW 0 ciX12 23 rfl (by decide) m_1254 rfl h23_ dX12_carry_160 ?_
                          refine lv_iload (pc := 163) hx hb dX12_carry_163 (lv_at hl 0 rfl) ?_
                          refine r_iald X hW 7 rfl (vp_in_nI (by omega) (by decide)) dX12_carry_165 ?_
                          refine lv_topi (fun v32 ev32 => ?_)
                          obtain rfl : v32 = pH (40 * i + j4) := ev32.trans (by rw [nI_clamp (by omega)])
                          refine lv_iload (pc := 166) hx hb dX12_carry_166 (lv_at hl 2 rfl) ?_
                          refine lv_icmp_ne (tgt := 382) (pc := 168) hx hb dX12_carry_168 rfl (fun c33 => ?_) (fun c33 => ?_)
                          · refine lv_iinc (v := nI (j4 + 1)) (lv' := [(7, .int (nI (j4 + 1))), (8, .int (nI (40 * i + j4))), (6, .int (nI (j2 + 1))), (5, .int (nI v9)), (0, .ref h0), (1, .int (nI i)), (2, .long lo), (4, .int wo)]) (pc := 382) hx hb dX12_carry_382 hl (k := 1) rfl (nI_add j4 1) (by decide) rfl (fun ls hl => ?_)
                            refine lv_goto (tgt := 139) (pc := 385) hx hb dX12_carry_385 rfl ?_
                            exact ih4 (j4 + 1) fb32_4 fb33_4 (by omega) (by omega) (by rw [L4_X12_carry, ← hst4]; exact (show L4_X12_carrys rD rS pH pK pA pW pR pe i v9 lo wo j2 fb30_2 fb31_2 j4 fb32_4 fb33_4 = (fb32_4, fb33_4) from by rw [L4_X12_carrys, if_neg c33]).symm) _ _ _ hW (lv_sub hl [0, 2, 3, 4, 5, 6, 7] rfl)
                          · refine lv_aload_n (pc := 171) hx hb dX12_carry_171 rfl (lv_at hl 4 rfl) ?_
                            refine r_get X hW 0 ciX12 28 rfl (by decide) m_1259 rfl h28_ dX12_carry_172 ?_
                            refine lv_iload (pc := 175) hx hb dX12_carry_175 (lv_at hl 1 rfl) ?_
                            refine r_iald X hW 10 rfl (vp_in_nI (by omega) (by decide)) dX12_carry_177 ?_
                            refine lv_topi (fun v36 ev36 => ?_)
                            obtain rfl : v36 = pW j4 := ev36.trans (by rw [nI_clamp (by omega)])
                            refine lv_if_ne (tgt := 382) (pc := 178) hx hb dX12_carry_178 rfl (fun c37 => ?_) (fun c37 => ?_)
                            · refine lv_iinc (v := nI (j4 + 1)) (lv' := [(7, .int (nI (j4 + 1))), (8, .int (nI (40 * i + j4))), (6, .int (nI (j2 + 1))), (5, .int (nI v9)), (0, .ref h0), (1, .int (nI i)), (2, .long lo), (4, .int wo)]) (pc := 382) hx hb dX12_carry_382 hl (k := 1) rfl (nI_add j4 1) (by decide) rfl (fun ls hl => ?_)
                              refine lv_goto (tgt := 139) (pc := 385) hx hb dX12_carry_385 rfl ?_
                              exact ih4 (j4 + 1) fb32_4 fb33_4 (by omega) (by omega) (by rw [L4_X12_carry, ← hst4]; exact (show L4_X12_carrys rD rS pH pK pA pW pR pe i v9 lo wo j2 fb30_2 fb31_2 j4 fb32_4 fb33_4 = (fb32_4, fb33_4) from by rw [L4_X12_carrys, if_pos c33, if_neg c37]).symm) _ _ _ hW (lv_sub hl [0, 2, 3, 4, 5, 6, 7] rfl)
                            · refine lv_lload_n (pc := 181) hx hb dX12_carry_181 rfl (lv_at hl 6 rfl) ?_
                              refine lv_iload (pc := 182) hx hb dX12_carry_182 (lv_at hl 1 rfl) ?_
                              refine lv_lshr (v := _) (pc := 184) hx hb dX12_carry_184 rfl ?_
                              refine lv_topl (fun v40 ev40 => ?_)
                              obtain rfl : v40 = lo >>> ((nI j4).toInt64 &&& 63) := ev40.trans (rfl)
                              refine lv_lconst (v := 1) (pc := 185) hx hb dX12_carry_185 (by decide) ?_
                              refine lv_land (pc := 186) hx hb dX12_carry_186 ?_
                              refine lv_lconst (v := 1) (pc := 187) hx hb dX12_carry_187 (by decide) ?_
                              refine W.lcmp (pc := 188) hx hb dX12_carry_188 ?_
                              refine lv_if_eq (tgt := 382) (pc := 189) hx hb dX12_carry_189 rfl (fun c41 => ?_) (fun c41 => ?_)
                              · refine lv_iinc (v := nI (j4 + 1)) (lv' := [(7, .int (nI (j4 + 1))), (8, .int (nI (40 * i + j4))), (6, .int (nI (j2 + 1))), (5, .int (nI v9)), (0, .ref h0), (1, .int (nI i)), (2, .long lo), (4, .int wo)]) (pc := 382) hx hb dX12_carry_382 hl (k := 1) rfl (nI_add j4 1) (by decide) rfl (fun ls hl => ?_)
                                refine lv_goto (tgt := 139) (pc := 385) hx hb dX12_carry_385 rfl ?_
                                exact ih4 (j4 + 1) fb32_4 fb33_4 (by omega) (by omega) (by rw [L4_X12_carry, ← hst4]; exact (show L4_X12_carrys rD rS pH pK pA pW pR pe i v9 lo wo j2 fb30_2 fb31_2 j4 fb32_4 fb33_4 = (fb32_4, fb33_4) from by rw [L4_X12_carrys, if_pos c33, if_pos c37, if_pos c41]).symm) _ _ _ hW (lv_sub hl [0, 2, 3, 4, 5, 6, 7] rfl)
                              · refine lv_aload_n (pc := 192) hx hb dX12_carry_192 rfl (lv_at hl 4 rfl) ?_
                                refine r_get X hW 0 ciX12 25 rfl (by decide) m_1256 rfl h25_ dX12_carry_193 ?_
                                refine lv_iload (pc := 196) hx hb dX12_carry_196 (lv_at hl 0 rfl) ?_
                                refine r_iald X hW 9 rfl (vp_in_nI (by omega) (by decide)) dX12_carry_198 ?_
                                refine lv_topi (fun v44 ev44 => ?_)
                                obtain rfl : v44 = pA (40 * i + j4) := ev44.trans (by rw [nI_clamp (by omega)])
                                refine lv_iload (pc := 199) hx hb dX12_carry_199 (lv_at hl 7 rfl) ?_
                                refine lv_icmp_ne (tgt := 207) (pc := 201) hx hb dX12_carry_201 rfl (fun c45 => ?_) (fun c45 => ?_)
                                · refine lv_aload_n (pc := 207) hx hb dX12_carry_207 rfl (lv_at hl 4 rfl) ?_
                                  refine r_get X hW 0 ciX12 25 rfl (by decide) m_1256 rfl h25_ dX12_carry_208 ?_
                                  refine lv_iload (pc := 211) hx hb dX12_carry_211 (lv_at hl 0 rfl) ?_
                                  refine r_iald X hW 9 rfl (vp_in_nI (by omega) (by decide)) dX12_carry_213 ?_
                                  refine lv_topi (fun v47 ev47 => ?_)
                                  obtain rfl : v47 = pA (40 * i + j4) := ev47.trans (by rw [nI_clamp (by omega)])
                                  have hOj := hOn j4 (by omega)
                                  have hOj2 := hOj.2
                                  rw [hOj.1]
                                  refine lv_istore (lv' := [(9, .int (nI (tN (pA (40 * i + j4))))), (8, .int (nI (40 * i + j4))), (7, .int (nI j4)), (6, .int (nI (j2 + 1))), (5, .int (nI v9)), (0, .ref h0), (1, .int (nI i)), (2, .long lo), (4, .int wo)]) (pc := 214) hx hb dX12_carry_214 hl (by decide) rfl (fun ls hl => ?_)
                                  refine lv_aload_n (pc := 216) hx hb dX12_carry_216 rfl (lv_at hl 5 rfl) ?_
                                  refine r_get X hW 0 ciX12 30 rfl (by decide) m_1261 rfl h30_ dX12_carry_217 ?_
                                  refine lv_bipush (v := 7) (pc := 220) hx hb dX12_carry_220 (by decide) ?_
                                  refine lv_iload (pc := 222) hx hb dX12_carry_222 (lv_at hl 3 rfl) ?_
                                  refine lv_iconst (v := 1) (pc := 224) hx hb dX12_carry_224 (by decide) ?_
                                  refine lv_isub (pc := 225) hx hb dX12_carry_225 ?_
                                  refine lv_topi (fun v48 ev48 => ?_)
                                  obtain rfl : v48 = nI (j2 + 1 - 1) := ev48.trans (pk_sub (a := (j2 + 1)) (b := 1) (by omega))
                                  refine lv_imul (pc := 226) hx hb dX12_carry_226 ?_
                                  refine lv_topi (fun v49 ev49 => ?_)
                                  obtain rfl : v49 = nI (7 * (j2 + 1 - 1)) := ev49.trans (pk_mul 7 (j2 + 1 - 1))
                                  refine lv_iload (pc := 227) hx hb dX12_carry_227 (lv_at hl 0 rfl) ?_
                                  refine lv_iadd (pc := 229) hx hb dX12_carry_229 ?_
                                  refine lv_topi (fun v50 ev50 => ?_)
                                  obtain rfl : v50 = nI (7 * (j2 + 1 - 1) + tN (pA (40 * i + j4))) := ev50.trans (nI_add _ _)
                                  refine r_iald X hW 12 rfl (vp_in_nI (by omega) (by decide)) dX12_carry_230 ?_
                                  refine lv_topi (fun v51 ev51 => ?_)
                                  obtain rfl : v51 = fb30_2 (7 * (j2 + 1 - 1) + tN (pA (40 * i + j4))) := ev51.trans (by rw [nI_clamp (by omega)])
                                  refine lv_istore (lv' := [(10, .int (fb30_2 (7 * (j2 + 1 - 1) + tN (pA (40 * i + j4))))), (9, .int (nI (tN (pA (40 * i + j4))))), (8, .int (nI (40 * i + j4))), (7, .int (nI j4)), (6, .int (nI (j2 + 1))), (5, .int (nI v9)), (0, .ref h0), (1, .int (nI i)), (2, .long lo), (4, .int wo)]) (pc := 231) hx hb dX12_carry_231 hl (by decide) rfl (fun ls hl => ?_)
                                  refine lv_iconst (v := 0) (pc := 233) hx hb dX12_carry_233 (by decide) ?_
                                  refine lv_istore (lv' := [(11, .int 0), (10, .int (fb30_2 (7 * (j2 + 1 - 1) + tN (pA (40 * i + j4))))), (9, .int (nI (tN (pA (40 * i + j4))))), (8, .int (nI (40 * i + j4))), (7, .int (nI j4)), (6, .int (nI (j2 + 1))), (5, .int (nI v9)), (0, .ref h0), (1, .int (nI i)), (2, .long lo), (4, .int wo)]) (pc := 234) hx hb dX12_carry_234 hl (by decide) rfl (fun ls hl => ?_)
                                  have loop6 : ∀ (fu6 : Nat) (j6 : Nat) (fb32_6 : Nat → Int32) (fb33_6 : Nat → Int32), (pe < fu6 + j6) → (j6 ≤ pe) → ((fb32_6, fb33_6) = L6_X12_carry rD rS pK pA pR i v9 wo j2 fb30_2 fb31_2 j4 fb32_4 fb33_4 j6) → ∀ (H : Heap) (locs : List Loc) (ls : Array Slot), WD g A s H locs [(h0, .inr (12, vs)), (b6, .inl (g.2.1 1, 11, .inl rP)), (b8, .inl (g.2.1 1, 11, .inl rD)), (b9, .inl (g.2.1 1, 44, .inl rK)), (b11, .inl (g.2.1 1, 44, .inl rS)), (b21, .inl (g.2.1 1, 12, .inl pO)), (b22, .inl (g.2.1 1, 12, .inl pC)), (b23, .inl (g.2.1 1, 480, .inl pH)), (b24, .inl (g.2.1 1, 480, .inl pK)), (b25, .inl (g.2.1 1, 480, .inl pA)), (b28, .inl (g.2.1 1, 40, .inl pW)), (b29, .inl (g.2.1 1, 40, .inl pR)), (b30, .inl (g.2.1 1, 175, .inl fb30_2)), (b31, .inl (g.2.1 1, 175, .inl fb31_2)), (b32, .inl (g.2.1 1, 7, .inl fb32_6)), (b33, .inl (g.2.1 1, 7, .inl fb33_6))] → lv_has ls 13 [(11, .int (nI j6)), (10, .int (fb30_2 (7 * (j2 + 1 - 1) + tN (pA (40 * i + j4))))), (9, .int (nI (tN (pA (40 * i + j4))))), (8, .int (nI (40 * i + j4))), (7, .int (nI j4)), (6, .int (nI (j2 + 1))), (5, .int (nI v9)), (0, .ref h0), (1, .int (nI i)), (2, .long lo), (4, .int wo)] → W p l e (RM 1 0 0) s m args below meth c H locs 0 0 Q (F0 m 236 ls []) := by
                                    intro fu6
                                    induction fu6 with
                                    | zero =>
                                      intro j6 fb32_6 fb33_6 hm6 hj6 hst6
                                      exact absurd hm6 (by omega)
                                    | succ fu6 ih6 =>
                                      intro j6 fb32_6 fb33_6 hm6 hj6 hst6 H locs ls hW hl
                                      refine lv_iload (pc := 236) hx hb dX12_carry_236 (lv_at hl 0 rfl) ?_
                                      refine lv_aload_n (pc := 238) hx hb dX12_carry_238 rfl (lv_at hl 7 rfl) ?_
                                      refine r_get X hW 0 ciX12 6 rfl (by decide) m_1237 rfl h6_ dX12_carry_239 ?_
                                      refine lv_iload (pc := 242) hx hb dX12_carry_242 (lv_at hl 6 rfl) ?_
                                      refine r_iald X hW 1 rfl (vp_in_nI (by omega) (by decide)) dX12_carry_244 ?_
                                      refine lv_topi (fun v52 ev52 => ?_)
                                      obtain rfl : v52 = rP v9 := ev52.trans (by rw [nI_clamp (by omega)])
                                      rw [hP]
                                      refine lv_icmp_ge (tgt := 382) (pc := 245) hx hb dX12_carry_245 rfl (fun c53 => ?_) (fun c53 => ?_)
                                      · have h54 : pe ≤ j6 := (nI_leI (a := pe) (b := j6) (by omega) (by omega)).mp c53
                                        have hN6 : j6 = pe := by omega
                                        rw [hN6] at hst6
                                        have hs6_0 : fb32_6 = (L6_X12_carry rD rS pK pA pR i v9 wo j2 fb30_2 fb31_2 j4 fb32_4 fb33_4 pe).1 := congrArg (fun z => z.1) hst6
                                        have hs6_1 : fb33_6 = (L6_X12_carry rD rS pK pA pR i v9 wo j2 fb30_2 fb31_2 j4 fb32_4 fb33_4 pe).2 := congrArg (fun z => z.2) hst6
                                        clear hst6
                                        subst hs6_0
                                        subst hs6_1
                                        have hW : WD g A s _ _ [(h0, .inr (12, vs)), (b6, .inl (g.2.1 1, 11, .inl rP)), (b8, .inl (g.2.1 1, 11, .inl rD)), (b9, .inl (g.2.1 1, 44, .inl rK)), (b11, .inl (g.2.1 1, 44, .inl rS)), (b21, .inl (g.2.1 1, 12, .inl pO)), (b22, .inl (g.2.1 1, 12, .inl pC)), (b23, .inl (g.2.1 1, 480, .inl pH)), (b24, .inl (g.2.1 1, 480, .inl pK)), (b25, .inl (g.2.1 1, 480, .inl pA)), (b28, .inl (g.2.1 1, 40, .inl pW)), (b29, .inl (g.2.1 1, 40, .inl pR)), (b30, .inl (g.2.1 1, 175, .inl fb30_2)), (b31, .inl (g.2.1 1, 175, .inl fb31_2)), (b32, .inl (g.2.1 1, 7, .inl ((L6_X12_carry rD rS pK pA pR i v9 wo j2 fb30_2 fb31_2 j4 fb32_4 fb33_4 pe).1))), (b33, .inl (g.2.1 1, 7, .inl ((L6_X12_carry rD rS pK pA pR i v9 wo j2 fb30_2 fb31_2 j4 fb32_4 fb33_4 pe).2)))] := hW
                                        refine lv_iinc (v := nI (j4 + 1)) (lv' := [(7, .int (nI (j4 + 1))), (11, .int (nI j6)), (10, .int (fb30_2 (7 * (j2 + 1 - 1) + tN (pA (40 * i + j4))))), (9, .int (nI (tN (pA (40 * i + j4))))), (8, .int (nI (40 * i + j4))), (6, .int (nI (j2 + 1))), (5, .int (nI v9)), (0, .ref h0), (1, .int (nI i)), (2, .long lo), (4, .int wo)]) (pc := 382) hx hb dX12_carry_382 hl (k := 4) rfl (nI_add j4 1) (by decide) rfl (fun ls hl => ?_)
                                        refine lv_goto (tgt := 139) (pc := 385) hx hb dX12_carry_385 rfl ?_
                                        exact ih4 (j4 + 1) ((L6_X12_carry rD rS pK pA pR i v9 wo j2 fb30_2 fb31_2 j4 fb32_4 fb33_4 pe).1) ((L6_X12_carry rD rS pK pA pR i v9 wo j2 fb30_2 fb31_2 j4 fb32_4 fb33_4 pe).2) (by omega) (by omega) (by rw [L4_X12_carry, ← hst4]; exact (show L4_X12_carrys rD rS pH pK pA pW pR pe i v9 lo wo j2 fb30_2 fb31_2 j4 fb32_4 fb33_4 = (((L6_X12_carry rD rS pK pA pR i v9 wo j2 fb30_2 fb31_2 j4 fb32_4 fb33_4 pe).1), ((L6_X12_carry rD rS pK pA pR i v9 wo j2 fb30_2 fb31_2 j4 fb32_4 fb33_4 pe).2)) from by rw [L4_X12_carrys, if_pos c33, if_pos c37, if_neg c41, if_neg c45]).symm) _ _ _ hW (lv_sub hl [0, 5, 6, 7, 8, 9, 10] rfl)
                                      · have h55 : ¬ (pe ≤ j6) := fun q => c53 ((nI_leI (a := pe) (b := j6) (by omega) (by omega)).mpr q)
                                        refine lv_aload_n (pc := 248) hx hb dX12_carry_248 rfl (lv_at hl 7 rfl) ?_
                                        refine r_get X hW 0 ciX12 29 rfl (by decide) m_1260 rfl h29_ dX12_carry_249 ?_
                                        refine lv_iload (pc := 252) hx hb dX12_carry_252 (lv_at hl 4 rfl) ?_
                                        refine r_iald X hW 11 rfl (vp_in_nI (by omega) (by decide)) dX12_carry_254 ?_
                                        refine lv_topi (fun v56 ev56 => ?_)
                                        obtain rfl : v56 = pR j4 := ev56.trans (by rw [nI_clamp (by omega)])
                                        refine lv_iload (pc := 255) hx hb dX12_carry_255 (lv_at hl 0 rfl) ?_
                                        refine lv_ishr (pc := 257) hx hb dX12_carry_257 ?_
                                        refine lv_iconst (v := 1) (pc := 258) hx hb dX12_carry_258 (by decide) ?_
                                        refine lv_iand (pc := 259) hx hb dX12_carry_259 ?_
                                        refine lv_if_eq (tgt := 376) (pc := 260) hx hb dX12_carry_260 rfl (fun c57 => ?_) (fun c57 => ?_)
                                        · refine lv_iinc (v := nI (j6 + 1)) (lv' := [(11, .int (nI (j6 + 1))), (10, .int (fb30_2 (7 * (j2 + 1 - 1) + tN (pA (40 * i + j4))))), (9, .int (nI (tN (pA (40 * i + j4))))), (8, .int (nI (40 * i + j4))), (7, .int (nI j4)), (6, .int (nI (j2 + 1))), (5, .int (nI v9)), (0, .ref h0), (1, .int (nI i)), (2, .long lo), (4, .int wo)]) (pc := 376) hx hb dX12_carry_376 hl (k := 0) rfl (nI_add j6 1) (by decide) rfl (fun ls hl => ?_)
                                          refine lv_goto (tgt := 236) (pc := 379) hx hb dX12_carry_379 rfl ?_
                                          exact ih6 (j6 + 1) fb32_6 fb33_6 (by omega) (by omega) (by rw [L6_X12_carry, ← hst6]; exact (show L6_X12_carrys rD rS pK pA pR i v9 wo j2 fb30_2 fb31_2 j4 j6 fb32_6 fb33_6 = (fb32_6, fb33_6) from by rw [L6_X12_carrys, if_pos c57]).symm) _ _ _ hW (lv_sub hl [0, 1, 2, 3, 4, 5, 6, 7, 8, 9, 10] rfl)
                                        · refine lv_iload (pc := 263) hx hb dX12_carry_263 (lv_at hl 0 rfl) ?_
                                          refine lv_iload (pc := 265) hx hb dX12_carry_265 (lv_at hl 10 rfl) ?_
                                          refine lv_icmp_ne (tgt := 273) (pc := 267) hx hb dX12_carry_267 rfl (fun c60 => ?_) (fun c60 => ?_)
                                          · refine lv_aload_n (pc := 273) hx hb dX12_carry_273 rfl (lv_at hl 7 rfl) ?_
                                            refine r_get X hW 0 ciX12 24 rfl (by decide) m_1255 rfl h24_ dX12_carry_274 ?_
                                            refine lv_iload (pc := 277) hx hb dX12_carry_277 (lv_at hl 3 rfl) ?_
                                            refine r_iald X hW 8 rfl (vp_in_nI (by omega) (by decide)) dX12_carry_279 ?_
                                            refine lv_topi (fun v62 ev62 => ?_)
                                            obtain rfl : v62 = pK (40 * i + j4) := ev62.trans (by rw [nI_clamp (by omega)])
                                            refine lv_istore (lv' := [(12, .int (pK (40 * i + j4))), (11, .int (nI j6)), (10, .int (fb30_2 (7 * (j2 + 1 - 1) + tN (pA (40 * i + j4))))), (9, .int (nI (tN (pA (40 * i + j4))))), (8, .int (nI (40 * i + j4))), (7, .int (nI j4)), (6, .int (nI (j2 + 1))), (5, .int (nI v9)), (0, .ref h0), (1, .int (nI i)), (2, .long lo), (4, .int wo)]) (pc := 280) hx hb dX12_carry_280 hl (by decide) rfl (fun ls hl => ?_)
                                            refine lv_iload (pc := 282) hx hb dX12_carry_282 (lv_at hl 0 rfl) ?_
                                            refine lv_if_eq (tgt := 299) (pc := 284) hx hb dX12_carry_284 rfl (fun c63 => ?_) (fun c63 => ?_)
                                            · refine lv_aload_n (pc := 299) hx hb dX12_carry_299 rfl (lv_at hl 8 rfl) ?_
                                              refine lv_iload (pc := 300) hx hb dX12_carry_300 (lv_at hl 7 rfl) ?_
                                              refine lv_iload (pc := 302) hx hb dX12_carry_302 (lv_at hl 6 rfl) ?_
                                              refine lv_iload (pc := 304) hx hb dX12_carry_304 (lv_at hl 2 rfl) ?_
                                              refine lv_iload (pc := 306) hx hb dX12_carry_306 (lv_at hl 1 rfl) ?_
                                              refine c_Vv (pc := 308) (As := [.int (nI v9), .int (nI (j2 + 1)), .int (fb30_2 (7 * (j2 + 1 - 1) + tN (pA (40 * i + j4)))), .int (nI j6)]) (rest := []) (wr := [(b6, .inl (g.2.1 1, 11, .inl rP)), (b9, .inl (g.2.1 1, 44, .inl rK)), (b11, .inl (g.2.1 1, 44, .inl rS)), (b21, .inl (g.2.1 1, 12, .inl pO)), (b22, .inl (g.2.1 1, 12, .inl pC)), (b23, .inl (g.2.1 1, 480, .inl pH)), (b24, .inl (g.2.1 1, 480, .inl pK)), (b25, .inl (g.2.1 1, 480, .inl pA)), (b28, .inl (g.2.1 1, 40, .inl pW)), (b29, .inl (g.2.1 1, 40, .inl pR))]) X hW 0 ciX12 rfl (K_X12_tells l g h0 vs b8 rD b30 fb30_2 b31 fb31_2 b32 fb32_6 b33 fb33_6 v9 j2 (fb30_2 (7 * (j2 + 1 - 1) + tN (pA (40 * i + j4)))) j6 hlen h8_ h30_ h31_ h32_ h33_ (by omega) (by omega) (by omega)) vX12_260 [0, 2, 12, 13, 14, 15] [1, 3, 4, 5, 6, 7, 8, 9, 10, 11] rfl rfl rfl rfl rfl rfl hl.1 rfl (Nat.le_of_ble_eq_true rfl) ⟨Nat.le_of_ble_eq_true rfl, Nat.le_of_ble_eq_true rfl⟩ ⟨Nat.le_of_ble_eq_true rfl, Nat.le_of_ble_eq_true rfl⟩ dX12_carry_308 (fun u9 H locs hq hW => ?_)
                                              obtain rfl := hq
                                              have hW : WD g A s _ _ [(b6, .inl (g.2.1 1, 11, .inl rP)), (b9, .inl (g.2.1 1, 44, .inl rK)), (b11, .inl (g.2.1 1, 44, .inl rS)), (b21, .inl (g.2.1 1, 12, .inl pO)), (b22, .inl (g.2.1 1, 12, .inl pC)), (b23, .inl (g.2.1 1, 480, .inl pH)), (b24, .inl (g.2.1 1, 480, .inl pK)), (b25, .inl (g.2.1 1, 480, .inl pA)), (b28, .inl (g.2.1 1, 40, .inl pW)), (b29, .inl (g.2.1 1, 40, .inl pR)), (h0, .inr (12, vs)), (b8, .inl (g.2.1 1, 11, .inl rD)), (b30, .inl (g.2.1 1, 175, .inl fb30_2)), (b31, .inl (g.2.1 1, 175, .inl fb31_2)), (b32, .inl (g.2.1 1, 7, .inl ((F_X12_tells rD fb30_2 fb31_2 fb32_6 fb33_6 v9 j2 (fb30_2 (7 * (j2 + 1 - 1) + tN (pA (40 * i + j4)))) j6).1))), (b33, .inl (g.2.1 1, 7, .inl ((F_X12_tells rD fb30_2 fb31_2 fb32_6 fb33_6 v9 j2 (fb30_2 (7 * (j2 + 1 - 1) + tN (pA (40 * i + j4)))) j6).2)))] := hW
                                              refine lv_iload (pc := 311) hx hb dX12_carry_311 (lv_at hl 0 rfl) ?_
                                              refine lv_if_eq (tgt := 322) (pc := 313) hx hb dX12_carry_313 rfl (fun c65 => ?_) (fun c65 => absurd c63 c65)
                                              refine lv_aload_n (pc := 322) hx hb dX12_carry_322 rfl (lv_at hl 8 rfl) ?_
                                              refine lv_iload (pc := 323) hx hb dX12_carry_323 (lv_at hl 7 rfl) ?_
                                              refine lv_iload (pc := 325) hx hb dX12_carry_325 (lv_at hl 6 rfl) ?_
                                              refine lv_aload_n (pc := 327) hx hb dX12_carry_327 rfl (lv_at hl 8 rfl) ?_
                                              refine r_get X hW 10 ciX12 30 rfl (by decide) m_1261 rfl h30_ dX12_carry_328 ?_
                                              refine lv_bipush (v := 7) (pc := 331) hx hb dX12_carry_331 (by decide) ?_
                                              refine lv_iload (pc := 333) hx hb dX12_carry_333 (lv_at hl 6 rfl) ?_
                                              refine lv_iconst (v := 1) (pc := 335) hx hb dX12_carry_335 (by decide) ?_
                                              refine lv_isub (pc := 336) hx hb dX12_carry_336 ?_
                                              refine lv_topi (fun v66 ev66 => ?_)
                                              obtain rfl : v66 = nI (j2 + 1 - 1) := ev66.trans (pk_sub (a := (j2 + 1)) (b := 1) (by omega))
                                              refine lv_imul (pc := 337) hx hb dX12_carry_337 ?_
                                              refine lv_topi (fun v67 ev67 => ?_)
                                              obtain rfl : v67 = nI (7 * (j2 + 1 - 1)) := ev67.trans (pk_mul 7 (j2 + 1 - 1))
                                              refine lv_iload (pc := 338) hx hb dX12_carry_338 (lv_at hl 1 rfl) ?_
                                              refine lv_iadd (pc := 340) hx hb dX12_carry_340 ?_
                                              refine lv_topi (fun v68 ev68 => ?_)
                                              obtain rfl : v68 = nI (7 * (j2 + 1 - 1) + j6) := ev68.trans (nI_add _ _)
                                              refine r_iald X hW 12 rfl (vp_in_nI (by omega) (by decide)) dX12_carry_341 ?_
                                              refine lv_topi (fun v69 ev69 => ?_)
                                              obtain rfl : v69 = fb30_2 (7 * (j2 + 1 - 1) + j6) := ev69.trans (by rw [nI_clamp (by omega)])
                                              refine lv_iload (pc := 342) hx hb dX12_carry_342 (lv_at hl 3 rfl) ?_
                                              refine c_Vv (pc := 344) (As := [.int (nI v9), .int (nI (j2 + 1)), .int (fb30_2 (7 * (j2 + 1 - 1) + j6)), .int (nI (tN (pA (40 * i + j4))))]) (rest := []) (wr := [(b6, .inl (g.2.1 1, 11, .inl rP)), (b9, .inl (g.2.1 1, 44, .inl rK)), (b11, .inl (g.2.1 1, 44, .inl rS)), (b21, .inl (g.2.1 1, 12, .inl pO)), (b22, .inl (g.2.1 1, 12, .inl pC)), (b23, .inl (g.2.1 1, 480, .inl pH)), (b24, .inl (g.2.1 1, 480, .inl pK)), (b25, .inl (g.2.1 1, 480, .inl pA)), (b28, .inl (g.2.1 1, 40, .inl pW)), (b29, .inl (g.2.1 1, 40, .inl pR))]) X hW 10 ciX12 rfl (K_X12_tells l g h0 vs b8 rD b30 fb30_2 b31 fb31_2 b32 ((F_X12_tells rD fb30_2 fb31_2 fb32_6 fb33_6 v9 j2 (fb30_2 (7 * (j2 + 1 - 1) + tN (pA (40 * i + j4)))) j6).1) b33 ((F_X12_tells rD fb30_2 fb31_2 fb32_6 fb33_6 v9 j2 (fb30_2 (7 * (j2 + 1 - 1) + tN (pA (40 * i + j4)))) j6).2) v9 j2 (fb30_2 (7 * (j2 + 1 - 1) + j6)) (tN (pA (40 * i + j4))) hlen h8_ h30_ h31_ h32_ h33_ (by omega) (by omega) (by omega)) vX12_260 [10, 11, 12, 13, 14, 15] [0, 1, 2, 3, 4, 5, 6, 7, 8, 9] rfl rfl rfl rfl rfl rfl hl.1 rfl (Nat.le_of_ble_eq_true rfl) ⟨Nat.le_of_ble_eq_true rfl, Nat.le_of_ble_eq_true rfl⟩ ⟨Nat.le_of_ble_eq_true rfl, Nat.le_of_ble_eq_true rfl⟩ dX12_carry_344 (fun u9 H locs hq hW => ?_)
                                              obtain rfl := hq
                                              have hW : WD g A s _ _ [(b6, .inl (g.2.1 1, 11, .inl rP)), (b9, .inl (g.2.1 1, 44, .inl rK)), (b11, .inl (g.2.1 1, 44, .inl rS)), (b21, .inl (g.2.1 1, 12, .inl pO)), (b22, .inl (g.2.1 1, 12, .inl pC)), (b23, .inl (g.2.1 1, 480, .inl pH)), (b24, .inl (g.2.1 1, 480, .inl pK)), (b25, .inl (g.2.1 1, 480, .inl pA)), (b28, .inl (g.2.1 1, 40, .inl pW)), (b29, .inl (g.2.1 1, 40, .inl pR)), (h0, .inr (12, vs)), (b8, .inl (g.2.1 1, 11, .inl rD)), (b30, .inl (g.2.1 1, 175, .inl fb30_2)), (b31, .inl (g.2.1 1, 175, .inl fb31_2)), (b32, .inl (g.2.1 1, 7, .inl ((F_X12_tells rD fb30_2 fb31_2 ((F_X12_tells rD fb30_2 fb31_2 fb32_6 fb33_6 v9 j2 (fb30_2 (7 * (j2 + 1 - 1) + tN (pA (40 * i + j4)))) j6).1) ((F_X12_tells rD fb30_2 fb31_2 fb32_6 fb33_6 v9 j2 (fb30_2 (7 * (j2 + 1 - 1) + tN (pA (40 * i + j4)))) j6).2) v9 j2 (fb30_2 (7 * (j2 + 1 - 1) + j6)) (tN (pA (40 * i + j4)))).1))), (b33, .inl (g.2.1 1, 7, .inl ((F_X12_tells rD fb30_2 fb31_2 ((F_X12_tells rD fb30_2 fb31_2 fb32_6 fb33_6 v9 j2 (fb30_2 (7 * (j2 + 1 - 1) + tN (pA (40 * i + j4)))) j6).1) ((F_X12_tells rD fb30_2 fb31_2 fb32_6 fb33_6 v9 j2 (fb30_2 (7 * (j2 + 1 - 1) + tN (pA (40 * i + j4)))) j6).2) v9 j2 (fb30_2 (7 * (j2 + 1 - 1) + j6)) (tN (pA (40 * i + j4)))).2)))] := hW
                                              refine lv_iload (pc := 347) hx hb dX12_carry_347 (lv_at hl 0 rfl) ?_
                                              refine lv_iconst (v := 4) (pc := 349) hx hb dX12_carry_349 (by decide) ?_
                                              refine lv_icmp_ne (tgt := 376) (pc := 350) hx hb dX12_carry_350 rfl (fun c70 => ?_) (fun c70 => absurd c70 (fun q => absurd (c63.symm.trans q) (by decide)))
                                              refine lv_iinc (v := nI (j6 + 1)) (lv' := [(11, .int (nI (j6 + 1))), (12, .int (pK (40 * i + j4))), (10, .int (fb30_2 (7 * (j2 + 1 - 1) + tN (pA (40 * i + j4))))), (9, .int (nI (tN (pA (40 * i + j4))))), (8, .int (nI (40 * i + j4))), (7, .int (nI j4)), (6, .int (nI (j2 + 1))), (5, .int (nI v9)), (0, .ref h0), (1, .int (nI i)), (2, .long lo), (4, .int wo)]) (pc := 376) hx hb dX12_carry_376 hl (k := 1) rfl (nI_add j6 1) (by decide) rfl (fun ls hl => ?_)
                                              refine lv_goto (tgt := 236) (pc := 379) hx hb dX12_carry_379 rfl ?_
                                              have hW : WD g A s _ _ [(h0, .inr (12, vs)), (b6, .inl (g.2.1 1, 11, .inl rP)), (b8, .inl (g.2.1 1, 11, .inl rD)), (b9, .inl (g.2.1 1, 44, .inl rK)), (b11, .inl (g.2.1 1, 44, .inl rS)), (b21, .inl (g.2.1 1, 12, .inl pO)), (b22, .inl (g.2.1 1, 12, .inl pC)), (b23, .inl (g.2.1 1, 480, .inl pH)), (b24, .inl (g.2.1 1, 480, .inl pK)), (b25, .inl (g.2.1 1, 480, .inl pA)), (b28, .inl (g.2.1 1, 40, .inl pW)), (b29, .inl (g.2.1 1, 40, .inl pR)), (b30, .inl (g.2.1 1, 175, .inl fb30_2)), (b31, .inl (g.2.1 1, 175, .inl fb31_2)), (b32, .inl (g.2.1 1, 7, .inl ((F_X12_tells rD fb30_2 fb31_2 ((F_X12_tells rD fb30_2 fb31_2 fb32_6 fb33_6 v9 j2 (fb30_2 (7 * (j2 + 1 - 1) + tN (pA (40 * i + j4)))) j6).1) ((F_X12_tells rD fb30_2 fb31_2 fb32_6 fb33_6 v9 j2 (fb30_2 (7 * (j2 + 1 - 1) + tN (pA (40 * i + j4)))) j6).2) v9 j2 (fb30_2 (7 * (j2 + 1 - 1) + j6)) (tN (pA (40 * i + j4)))).1))), (b33, .inl (g.2.1 1, 7, .inl ((F_X12_tells rD fb30_2 fb31_2 ((F_X12_tells rD fb30_2 fb31_2 fb32_6 fb33_6 v9 j2 (fb30_2 (7 * (j2 + 1 - 1) + tN (pA (40 * i + j4)))) j6).1) ((F_X12_tells rD fb30_2 fb31_2 fb32_6 fb33_6 v9 j2 (fb30_2 (7 * (j2 + 1 - 1) + tN (pA (40 * i + j4)))) j6).2) v9 j2 (fb30_2 (7 * (j2 + 1 - 1) + j6)) (tN (pA (40 * i + j4)))).2)))] := hW.pick [10, 0, 11, 1, 2, 3, 4, 5, 6, 7, 8, 9, 12, 13, 14, 15] rfl rfl
                                              exact ih6 (j6 + 1) ((F_X12_tells rD fb30_2 fb31_2 ((F_X12_tells rD fb30_2 fb31_2 fb32_6 fb33_6 v9 j2 (fb30_2 (7 * (j2 + 1 - 1) + tN (pA (40 * i + j4)))) j6).1) ((F_X12_tells rD fb30_2 fb31_2 fb32_6 fb33_6 v9 j2 (fb30_2 (7 * (j2 + 1 - 1) + tN (pA (40 * i + j4)))) j6).2) v9 j2 (fb30_2 (7 * (j2 + 1 - 1) + j6)) (tN (pA (40 * i + j4)))).1) ((F_X12_tells rD fb30_2 fb31_2 ((F_X12_tells rD fb30_2 fb31_2 fb32_6 fb33_6 v9 j2 (fb30_2 (7 * (j2 + 1 - 1) + tN (pA (40 * i + j4)))) j6).1) ((F_X12_tells rD fb30_2 fb31_2 fb32_6 fb33_6 v9 j2 (fb30_2 (7 * (j2 + 1 - 1) + tN (pA (40 * i + j4)))) j6).2) v9 j2 (fb30_2 (7 * (j2 + 1 - 1) + j6)) (tN (pA (40 * i + j4)))).2) (by omega) (by omega) (by rw [L6_X12_carry, ← hst6]; exact (show L6_X12_carrys rD rS pK pA pR i v9 wo j2 fb30_2 fb31_2 j4 j6 fb32_6 fb33_6 = (((F_X12_tells rD fb30_2 fb31_2 ((F_X12_tells rD fb30_2 fb31_2 fb32_6 fb33_6 v9 j2 (fb30_2 (7 * (j2 + 1 - 1) + tN (pA (40 * i + j4)))) j6).1) ((F_X12_tells rD fb30_2 fb31_2 fb32_6 fb33_6 v9 j2 (fb30_2 (7 * (j2 + 1 - 1) + tN (pA (40 * i + j4)))) j6).2) v9 j2 (fb30_2 (7 * (j2 + 1 - 1) + j6)) (tN (pA (40 * i + j4)))).1), ((F_X12_tells rD fb30_2 fb31_2 ((F_X12_tells rD fb30_2 fb31_2 fb32_6 fb33_6 v9 j2 (fb30_2 (7 * (j2 + 1 - 1) + tN (pA (40 * i + j4)))) j6).1) ((F_X12_tells rD fb30_2 fb31_2 fb32_6 fb33_6 v9 j2 (fb30_2 (7 * (j2 + 1 - 1) + tN (pA (40 * i + j4)))) j6).2) v9 j2 (fb30_2 (7 * (j2 + 1 - 1) + j6)) (tN (pA (40 * i + j4)))).2)) from by rw [L6_X12_carrys, if_neg c57, if_neg c60, if_pos c63]).symm) _ _ _ hW (lv_sub hl [0, 2, 3, 4, 5, 6, 7, 8, 9, 10, 11] rfl)
                                            · refine lv_iload (pc := 287) hx hb dX12_carry_287 (lv_at hl 0 rfl) ?_
                                              refine lv_iconst (v := 1) (pc := 289) hx hb dX12_carry_289 (by decide) ?_
                                              refine lv_icmp_eq (tgt := 299) (pc := 290) hx hb dX12_carry_290 rfl (fun c72 => ?_) (fun c72 => ?_)
                                              · refine lv_aload_n (pc := 299) hx hb dX12_carry_299 rfl (lv_at hl 8 rfl) ?_
                                                refine lv_iload (pc := 300) hx hb dX12_carry_300 (lv_at hl 7 rfl) ?_
                                                refine lv_iload (pc := 302) hx hb dX12_carry_302 (lv_at hl 6 rfl) ?_
                                                refine lv_iload (pc := 304) hx hb dX12_carry_304 (lv_at hl 2 rfl) ?_
                                                refine lv_iload (pc := 306) hx hb dX12_carry_306 (lv_at hl 1 rfl) ?_
                                                refine c_Vv (pc := 308) (As := [.int (nI v9), .int (nI (j2 + 1)), .int (fb30_2 (7 * (j2 + 1 - 1) + tN (pA (40 * i + j4)))), .int (nI j6)]) (rest := []) (wr := [(b6, .inl (g.2.1 1, 11, .inl rP)), (b9, .inl (g.2.1 1, 44, .inl rK)), (b11, .inl (g.2.1 1, 44, .inl rS)), (b21, .inl (g.2.1 1, 12, .inl pO)), (b22, .inl (g.2.1 1, 12, .inl pC)), (b23, .inl (g.2.1 1, 480, .inl pH)), (b24, .inl (g.2.1 1, 480, .inl pK)), (b25, .inl (g.2.1 1, 480, .inl pA)), (b28, .inl (g.2.1 1, 40, .inl pW)), (b29, .inl (g.2.1 1, 40, .inl pR))]) X hW 0 ciX12 rfl (K_X12_tells l g h0 vs b8 rD b30 fb30_2 b31 fb31_2 b32 fb32_6 b33 fb33_6 v9 j2 (fb30_2 (7 * (j2 + 1 - 1) + tN (pA (40 * i + j4)))) j6 hlen h8_ h30_ h31_ h32_ h33_ (by omega) (by omega) (by omega)) vX12_260 [0, 2, 12, 13, 14, 15] [1, 3, 4, 5, 6, 7, 8, 9, 10, 11] rfl rfl rfl rfl rfl rfl hl.1 rfl (Nat.le_of_ble_eq_true rfl) ⟨Nat.le_of_ble_eq_true rfl, Nat.le_of_ble_eq_true rfl⟩ ⟨Nat.le_of_ble_eq_true rfl, Nat.le_of_ble_eq_true rfl⟩ dX12_carry_308 (fun u9 H locs hq hW => ?_)
                                                obtain rfl := hq
                                                have hW : WD g A s _ _ [(b6, .inl (g.2.1 1, 11, .inl rP)), (b9, .inl (g.2.1 1, 44, .inl rK)), (b11, .inl (g.2.1 1, 44, .inl rS)), (b21, .inl (g.2.1 1, 12, .inl pO)), (b22, .inl (g.2.1 1, 12, .inl pC)), (b23, .inl (g.2.1 1, 480, .inl pH)), (b24, .inl (g.2.1 1, 480, .inl pK)), (b25, .inl (g.2.1 1, 480, .inl pA)), (b28, .inl (g.2.1 1, 40, .inl pW)), (b29, .inl (g.2.1 1, 40, .inl pR)), (h0, .inr (12, vs)), (b8, .inl (g.2.1 1, 11, .inl rD)), (b30, .inl (g.2.1 1, 175, .inl fb30_2)), (b31, .inl (g.2.1 1, 175, .inl fb31_2)), (b32, .inl (g.2.1 1, 7, .inl ((F_X12_tells rD fb30_2 fb31_2 fb32_6 fb33_6 v9 j2 (fb30_2 (7 * (j2 + 1 - 1) + tN (pA (40 * i + j4)))) j6).1))), (b33, .inl (g.2.1 1, 7, .inl ((F_X12_tells rD fb30_2 fb31_2 fb32_6 fb33_6 v9 j2 (fb30_2 (7 * (j2 + 1 - 1) + tN (pA (40 * i + j4)))) j6).2)))] := hW
                                                refine lv_iload (pc := 311) hx hb dX12_carry_311 (lv_at hl 0 rfl) ?_
                                                refine lv_if_eq (tgt := 322) (pc := 313) hx hb dX12_carry_313 rfl (fun c74 => absurd c74 (fun q => absurd (c72.symm.trans q) (by decide))) (fun c74 => ?_)
                                                refine lv_iload (pc := 316) hx hb dX12_carry_316 (lv_at hl 0 rfl) ?_
                                                refine lv_iconst (v := 2) (pc := 318) hx hb dX12_carry_318 (by decide) ?_
                                                refine lv_icmp_ne (tgt := 347) (pc := 319) hx hb dX12_carry_319 rfl (fun c75 => ?_) (fun c75 => absurd c75 (fun q => absurd (c72.symm.trans q) (by decide)))
                                                refine lv_iload (pc := 347) hx hb dX12_carry_347 (lv_at hl 0 rfl) ?_
                                                refine lv_iconst (v := 4) (pc := 349) hx hb dX12_carry_349 (by decide) ?_
                                                refine lv_icmp_ne (tgt := 376) (pc := 350) hx hb dX12_carry_350 rfl (fun c76 => ?_) (fun c76 => absurd c76 (fun q => absurd (c72.symm.trans q) (by decide)))
                                                refine lv_iinc (v := nI (j6 + 1)) (lv' := [(11, .int (nI (j6 + 1))), (12, .int (pK (40 * i + j4))), (10, .int (fb30_2 (7 * (j2 + 1 - 1) + tN (pA (40 * i + j4))))), (9, .int (nI (tN (pA (40 * i + j4))))), (8, .int (nI (40 * i + j4))), (7, .int (nI j4)), (6, .int (nI (j2 + 1))), (5, .int (nI v9)), (0, .ref h0), (1, .int (nI i)), (2, .long lo), (4, .int wo)]) (pc := 376) hx hb dX12_carry_376 hl (k := 1) rfl (nI_add j6 1) (by decide) rfl (fun ls hl => ?_)
                                                refine lv_goto (tgt := 236) (pc := 379) hx hb dX12_carry_379 rfl ?_
                                                have hW : WD g A s _ _ [(h0, .inr (12, vs)), (b6, .inl (g.2.1 1, 11, .inl rP)), (b8, .inl (g.2.1 1, 11, .inl rD)), (b9, .inl (g.2.1 1, 44, .inl rK)), (b11, .inl (g.2.1 1, 44, .inl rS)), (b21, .inl (g.2.1 1, 12, .inl pO)), (b22, .inl (g.2.1 1, 12, .inl pC)), (b23, .inl (g.2.1 1, 480, .inl pH)), (b24, .inl (g.2.1 1, 480, .inl pK)), (b25, .inl (g.2.1 1, 480, .inl pA)), (b28, .inl (g.2.1 1, 40, .inl pW)), (b29, .inl (g.2.1 1, 40, .inl pR)), (b30, .inl (g.2.1 1, 175, .inl fb30_2)), (b31, .inl (g.2.1 1, 175, .inl fb31_2)), (b32, .inl (g.2.1 1, 7, .inl ((F_X12_tells rD fb30_2 fb31_2 fb32_6 fb33_6 v9 j2 (fb30_2 (7 * (j2 + 1 - 1) + tN (pA (40 * i + j4)))) j6).1))), (b33, .inl (g.2.1 1, 7, .inl ((F_X12_tells rD fb30_2 fb31_2 fb32_6 fb33_6 v9 j2 (fb30_2 (7 * (j2 + 1 - 1) + tN (pA (40 * i + j4)))) j6).2)))] := hW.pick [10, 0, 11, 1, 2, 3, 4, 5, 6, 7, 8, 9, 12, 13, 14, 15] rfl rfl
                                                exact ih6 (j6 + 1) ((F_X12_tells rD fb30_2 fb31_2 fb32_6 fb33_6 v9 j2 (fb30_2 (7 * (j2 + 1 - 1) + tN (pA (40 * i + j4)))) j6).1) ((F_X12_tells rD fb30_2 fb31_2 fb32_6 fb33_6 v9 j2 (fb30_2 (7 * (j2 + 1 - 1) + tN (pA (40 * i + j4)))) j6).2) (by omega) (by omega) (by rw [L6_X12_carry, ← hst6]; exact (show L6_X12_carrys rD rS pK pA pR i v9 wo j2 fb30_2 fb31_2 j4 j6 fb32_6 fb33_6 = (((F_X12_tells rD fb30_2 fb31_2 fb32_6 fb33_6 v9 j2 (fb30_2 (7 * (j2 + 1 - 1) + tN (pA (40 * i + j4)))) j6).1), ((F_X12_tells rD fb30_2 fb31_2 fb32_6 fb33_6 v9 j2 (fb30_2 (7 * (j2 + 1 - 1) + tN (pA (40 * i + j4)))) j6).2)) from by rw [L6_X12_carrys, if_neg c57, if_neg c60, if_neg c63, if_pos c72]).symm) _ _ _ hW (lv_sub hl [0, 2, 3, 4, 5, 6, 7, 8, 9, 10, 11] rfl)
                                              · refine lv_iload (pc := 293) hx hb dX12_carry_293 (lv_at hl 0 rfl) ?_
                                                refine lv_iconst (v := 3) (pc := 295) hx hb dX12_carry_295 (by decide) ?_
                                                refine lv_icmp_ne (tgt := 311) (pc := 296) hx hb dX12_carry_296 rfl (fun c78 => ?_) (fun c78 => ?_)
                                                · refine lv_iload (pc := 311) hx hb dX12_carry_311 (lv_at hl 0 rfl) ?_
                                                  refine lv_if_eq (tgt := 322) (pc := 313) hx hb dX12_carry_313 rfl (fun c80 => absurd c80 c63) (fun c80 => ?_)
                                                  refine lv_iload (pc := 316) hx hb dX12_carry_316 (lv_at hl 0 rfl) ?_
                                                  refine lv_iconst (v := 2) (pc := 318) hx hb dX12_carry_318 (by decide) ?_
                                                  refine lv_icmp_ne (tgt := 347) (pc := 319) hx hb dX12_carry_319 rfl (fun c81 => ?_) (fun c81 => ?_)
                                                  · refine lv_iload (pc := 347) hx hb dX12_carry_347 (lv_at hl 0 rfl) ?_
                                                    refine lv_iconst (v := 4) (pc := 349) hx hb dX12_carry_349 (by decide) ?_
                                                    refine lv_icmp_ne (tgt := 376) (pc := 350) hx hb dX12_carry_350 rfl (fun c83 => ?_) (fun c83 => ?_)
                                                    · refine lv_iinc (v := nI (j6 + 1)) (lv' := [(11, .int (nI (j6 + 1))), (12, .int (pK (40 * i + j4))), (10, .int (fb30_2 (7 * (j2 + 1 - 1) + tN (pA (40 * i + j4))))), (9, .int (nI (tN (pA (40 * i + j4))))), (8, .int (nI (40 * i + j4))), (7, .int (nI j4)), (6, .int (nI (j2 + 1))), (5, .int (nI v9)), (0, .ref h0), (1, .int (nI i)), (2, .long lo), (4, .int wo)]) (pc := 376) hx hb dX12_carry_376 hl (k := 1) rfl (nI_add j6 1) (by decide) rfl (fun ls hl => ?_)
                                                      refine lv_goto (tgt := 236) (pc := 379) hx hb dX12_carry_379 rfl ?_
                                                      exact ih6 (j6 + 1) fb32_6 fb33_6 (by omega) (by omega) (by rw [L6_X12_carry, ← hst6]; exact (show L6_X12_carrys rD rS pK pA pR i v9 wo j2 fb30_2 fb31_2 j4 j6 fb32_6 fb33_6 = (fb32_6, fb33_6) from by rw [L6_X12_carrys, if_neg c57, if_neg c60, if_neg c63, if_neg c72, if_neg c78, if_neg c81, if_neg c83]).symm) _ _ _ hW (lv_sub hl [0, 2, 3, 4, 5, 6, 7, 8, 9, 10, 11] rfl)
                                                    · refine lv_aload_n (pc := 353) hx hb dX12_carry_353 rfl (lv_at hl 8 rfl) ?_
                                                      refine lv_iload (pc := 354) hx hb dX12_carry_354 (lv_at hl 7 rfl) ?_
                                                      refine lv_iload (pc := 356) hx hb dX12_carry_356 (lv_at hl 6 rfl) ?_
                                                      refine lv_iload (pc := 358) hx hb dX12_carry_358 (lv_at hl 2 rfl) ?_
                                                      refine lv_aload_n (pc := 360) hx hb dX12_carry_360 rfl (lv_at hl 8 rfl) ?_
                                                      refine lv_iload (pc := 361) hx hb dX12_carry_361 (lv_at hl 7 rfl) ?_
                                                      refine lv_iload (pc := 363) hx hb dX12_carry_363 (lv_at hl 1 rfl) ?_
                                                      refine c_Vi (pc := 365) (As := [.int (nI v9), .int (nI j6)]) (rest := [.int (fb30_2 (7 * (j2 + 1 - 1) + tN (pA (40 * i + j4)))), .int (nI (j2 + 1)), .int (nI v9), .ref h0]) (wr := [(b6, .inl (g.2.1 1, 11, .inl rP)), (b8, .inl (g.2.1 1, 11, .inl rD)), (b9, .inl (g.2.1 1, 44, .inl rK)), (b21, .inl (g.2.1 1, 12, .inl pO)), (b22, .inl (g.2.1 1, 12, .inl pC)), (b23, .inl (g.2.1 1, 480, .inl pH)), (b24, .inl (g.2.1 1, 480, .inl pK)), (b25, .inl (g.2.1 1, 480, .inl pA)), (b28, .inl (g.2.1 1, 40, .inl pW)), (b29, .inl (g.2.1 1, 40, .inl pR)), (b30, .inl (g.2.1 1, 175, .inl fb30_2)), (b31, .inl (g.2.1 1, 175, .inl fb31_2)), (b32, .inl (g.2.1 1, 7, .inl fb32_6)), (b33, .inl (g.2.1 1, 7, .inl fb33_6))]) X hW 0 ciX12 rfl (K_X12_notFor l g h0 vs b11 rS v9 j6 hlen h11_ (by omega)) vX12_264 [0, 4] [1, 2, 3, 5, 6, 7, 8, 9, 10, 11, 12, 13, 14, 15] rfl rfl rfl rfl rfl rfl hl.1 rfl (Nat.le_of_ble_eq_true rfl) ⟨Nat.le_of_ble_eq_true rfl, Nat.le_of_ble_eq_true rfl⟩ ⟨Nat.le_of_ble_eq_true rfl, Nat.le_of_ble_eq_true rfl⟩ dX12_carry_365 (fun r86 u9 H locs hq hW => ?_)
                                                      obtain ⟨rfl, rfl⟩ := hq
                                                      have hW : WD g A s _ _ [(b6, .inl (g.2.1 1, 11, .inl rP)), (b8, .inl (g.2.1 1, 11, .inl rD)), (b9, .inl (g.2.1 1, 44, .inl rK)), (b21, .inl (g.2.1 1, 12, .inl pO)), (b22, .inl (g.2.1 1, 12, .inl pC)), (b23, .inl (g.2.1 1, 480, .inl pH)), (b24, .inl (g.2.1 1, 480, .inl pK)), (b25, .inl (g.2.1 1, 480, .inl pA)), (b28, .inl (g.2.1 1, 40, .inl pW)), (b29, .inl (g.2.1 1, 40, .inl pR)), (b30, .inl (g.2.1 1, 175, .inl fb30_2)), (b31, .inl (g.2.1 1, 175, .inl fb31_2)), (b32, .inl (g.2.1 1, 7, .inl fb32_6)), (b33, .inl (g.2.1 1, 7, .inl fb33_6)), (h0, .inr (12, vs)), (b11, .inl (g.2.1 1, 44, .inl rS))] := hW
                                                      refine lv_iconst (v := (-1)) (pc := 368) hx hb dX12_carry_368 (by decide) ?_
                                                      refine lv_ixor (pc := 369) hx hb dX12_carry_369 ?_
                                                      refine lv_iand (pc := 370) hx hb dX12_carry_370 ?_
                                                      refine lv_iload (pc := 371) hx hb dX12_carry_371 (lv_at hl 1 rfl) ?_
                                                      refine c_Vv (pc := 373) (As := [.int (nI v9), .int (nI (j2 + 1)), .int ((fb30_2 (7 * (j2 + 1 - 1) + tN (pA (40 * i + j4)))) &&& ((F_X12_notFor rS v9 j6) ^^^ (-1 : Int32))), .int (nI j6)]) (rest := []) (wr := [(b6, .inl (g.2.1 1, 11, .inl rP)), (b9, .inl (g.2.1 1, 44, .inl rK)), (b21, .inl (g.2.1 1, 12, .inl pO)), (b22, .inl (g.2.1 1, 12, .inl pC)), (b23, .inl (g.2.1 1, 480, .inl pH)), (b24, .inl (g.2.1 1, 480, .inl pK)), (b25, .inl (g.2.1 1, 480, .inl pA)), (b28, .inl (g.2.1 1, 40, .inl pW)), (b29, .inl (g.2.1 1, 40, .inl pR)), (b11, .inl (g.2.1 1, 44, .inl rS))]) X hW 14 ciX12 rfl (K_X12_tells l g h0 vs b8 rD b30 fb30_2 b31 fb31_2 b32 fb32_6 b33 fb33_6 v9 j2 ((fb30_2 (7 * (j2 + 1 - 1) + tN (pA (40 * i + j4)))) &&& ((F_X12_notFor rS v9 j6) ^^^ (-1 : Int32))) j6 hlen h8_ h30_ h31_ h32_ h33_ (by omega) (by omega) (by omega)) vX12_260 [14, 1, 10, 11, 12, 13] [0, 2, 3, 4, 5, 6, 7, 8, 9, 15] rfl rfl rfl rfl rfl rfl hl.1 rfl (Nat.le_of_ble_eq_true rfl) ⟨Nat.le_of_ble_eq_true rfl, Nat.le_of_ble_eq_true rfl⟩ ⟨Nat.le_of_ble_eq_true rfl, Nat.le_of_ble_eq_true rfl⟩ dX12_carry_373 (fun u9 H locs hq hW => ?_)
                                                      obtain rfl := hq
                                                      have hW : WD g A s _ _ [(b6, .inl (g.2.1 1, 11, .inl rP)), (b9, .inl (g.2.1 1, 44, .inl rK)), (b21, .inl (g.2.1 1, 12, .inl pO)), (b22, .inl (g.2.1 1, 12, .inl pC)), (b23, .inl (g.2.1 1, 480, .inl pH)), (b24, .inl (g.2.1 1, 480, .inl pK)), (b25, .inl (g.2.1 1, 480, .inl pA)), (b28, .inl (g.2.1 1, 40, .inl pW)), (b29, .inl (g.2.1 1, 40, .inl pR)), (b11, .inl (g.2.1 1, 44, .inl rS)), (h0, .inr (12, vs)), (b8, .inl (g.2.1 1, 11, .inl rD)), (b30, .inl (g.2.1 1, 175, .inl fb30_2)), (b31, .inl (g.2.1 1, 175, .inl fb31_2)), (b32, .inl (g.2.1 1, 7, .inl ((F_X12_tells rD fb30_2 fb31_2 fb32_6 fb33_6 v9 j2 ((fb30_2 (7 * (j2 + 1 - 1) + tN (pA (40 * i + j4)))) &&& ((F_X12_notFor rS v9 j6) ^^^ (-1 : Int32))) j6).1))), (b33, .inl (g.2.1 1, 7, .inl ((F_X12_tells rD fb30_2 fb31_2 fb32_6 fb33_6 v9 j2 ((fb30_2 (7 * (j2 + 1 - 1) + tN (pA (40 * i + j4)))) &&& ((F_X12_notFor rS v9 j6) ^^^ (-1 : Int32))) j6).2)))] := hW
                                                      refine lv_iinc (v := nI (j6 + 1)) (lv' := [(11, .int (nI (j6 + 1))), (12, .int (pK (40 * i + j4))), (10, .int (fb30_2 (7 * (j2 + 1 - 1) + tN (pA (40 * i + j4))))), (9, .int (nI (tN (pA (40 * i + j4))))), (8, .int (nI (40 * i + j4))), (7, .int (nI j4)), (6, .int (nI (j2 + 1))), (5, .int (nI v9)), (0, .ref h0), (1, .int (nI i)), (2, .long lo), (4, .int wo)]) (pc := 376) hx hb dX12_carry_376 hl (k := 1) rfl (nI_add j6 1) (by decide) rfl (fun ls hl => ?_)
                                                      refine lv_goto (tgt := 236) (pc := 379) hx hb dX12_carry_379 rfl ?_
                                                      have hW : WD g A s _ _ [(h0, .inr (12, vs)), (b6, .inl (g.2.1 1, 11, .inl rP)), (b8, .inl (g.2.1 1, 11, .inl rD)), (b9, .inl (g.2.1 1, 44, .inl rK)), (b11, .inl (g.2.1 1, 44, .inl rS)), (b21, .inl (g.2.1 1, 12, .inl pO)), (b22, .inl (g.2.1 1, 12, .inl pC)), (b23, .inl (g.2.1 1, 480, .inl pH)), (b24, .inl (g.2.1 1, 480, .inl pK)), (b25, .inl (g.2.1 1, 480, .inl pA)), (b28, .inl (g.2.1 1, 40, .inl pW)), (b29, .inl (g.2.1 1, 40, .inl pR)), (b30, .inl (g.2.1 1, 175, .inl fb30_2)), (b31, .inl (g.2.1 1, 175, .inl fb31_2)), (b32, .inl (g.2.1 1, 7, .inl ((F_X12_tells rD fb30_2 fb31_2 fb32_6 fb33_6 v9 j2 ((fb30_2 (7 * (j2 + 1 - 1) + tN (pA (40 * i + j4)))) &&& ((F_X12_notFor rS v9 j6) ^^^ (-1 : Int32))) j6).1))), (b33, .inl (g.2.1 1, 7, .inl ((F_X12_tells rD fb30_2 fb31_2 fb32_6 fb33_6 v9 j2 ((fb30_2 (7 * (j2 + 1 - 1) + tN (pA (40 * i + j4)))) &&& ((F_X12_notFor rS v9 j6) ^^^ (-1 : Int32))) j6).2)))] := hW.pick [10, 0, 11, 1, 9, 2, 3, 4, 5, 6, 7, 8, 12, 13, 14, 15] rfl rfl
                                                      exact ih6 (j6 + 1) ((F_X12_tells rD fb30_2 fb31_2 fb32_6 fb33_6 v9 j2 ((fb30_2 (7 * (j2 + 1 - 1) + tN (pA (40 * i + j4)))) &&& ((F_X12_notFor rS v9 j6) ^^^ (-1 : Int32))) j6).1) ((F_X12_tells rD fb30_2 fb31_2 fb32_6 fb33_6 v9 j2 ((fb30_2 (7 * (j2 + 1 - 1) + tN (pA (40 * i + j4)))) &&& ((F_X12_notFor rS v9 j6) ^^^ (-1 : Int32))) j6).2) (by omega) (by omega) (by rw [L6_X12_carry, ← hst6]; exact (show L6_X12_carrys rD rS pK pA pR i v9 wo j2 fb30_2 fb31_2 j4 j6 fb32_6 fb33_6 = (((F_X12_tells rD fb30_2 fb31_2 fb32_6 fb33_6 v9 j2 ((fb30_2 (7 * (j2 + 1 - 1) + tN (pA (40 * i + j4)))) &&& ((F_X12_notFor rS v9 j6) ^^^ (-1 : Int32))) j6).1), ((F_X12_tells rD fb30_2 fb31_2 fb32_6 fb33_6 v9 j2 ((fb30_2 (7 * (j2 + 1 - 1) + tN (pA (40 * i + j4)))) &&& ((F_X12_notFor rS v9 j6) ^^^ (-1 : Int32))) j6).2)) from by rw [L6_X12_carrys, if_neg c57, if_neg c60, if_neg c63, if_neg c72, if_neg c78, if_neg c81, if_pos c83]).symm) _ _ _ hW (lv_sub hl [0, 2, 3, 4, 5, 6, 7, 8, 9, 10, 11] rfl)
                                                  · refine lv_aload_n (pc := 322) hx hb dX12_carry_322 rfl (lv_at hl 8 rfl) ?_
                                                    refine lv_iload (pc := 323) hx hb dX12_carry_323 (lv_at hl 7 rfl) ?_
                                                    refine lv_iload (pc := 325) hx hb dX12_carry_325 (lv_at hl 6 rfl) ?_
                                                    refine lv_aload_n (pc := 327) hx hb dX12_carry_327 rfl (lv_at hl 8 rfl) ?_
                                                    refine r_get X hW 0 ciX12 30 rfl (by decide) m_1261 rfl h30_ dX12_carry_328 ?_
                                                    refine lv_bipush (v := 7) (pc := 331) hx hb dX12_carry_331 (by decide) ?_
                                                    refine lv_iload (pc := 333) hx hb dX12_carry_333 (lv_at hl 6 rfl) ?_
                                                    refine lv_iconst (v := 1) (pc := 335) hx hb dX12_carry_335 (by decide) ?_
                                                    refine lv_isub (pc := 336) hx hb dX12_carry_336 ?_
                                                    refine lv_topi (fun v88 ev88 => ?_)
                                                    obtain rfl : v88 = nI (j2 + 1 - 1) := ev88.trans (pk_sub (a := (j2 + 1)) (b := 1) (by omega))
                                                    refine lv_imul (pc := 337) hx hb dX12_carry_337 ?_
                                                    refine lv_topi (fun v89 ev89 => ?_)
                                                    obtain rfl : v89 = nI (7 * (j2 + 1 - 1)) := ev89.trans (pk_mul 7 (j2 + 1 - 1))
                                                    refine lv_iload (pc := 338) hx hb dX12_carry_338 (lv_at hl 1 rfl) ?_
                                                    refine lv_iadd (pc := 340) hx hb dX12_carry_340 ?_
                                                    refine lv_topi (fun v90 ev90 => ?_)
                                                    obtain rfl : v90 = nI (7 * (j2 + 1 - 1) + j6) := ev90.trans (nI_add _ _)
                                                    refine r_iald X hW 12 rfl (vp_in_nI (by omega) (by decide)) dX12_carry_341 ?_
                                                    refine lv_topi (fun v91 ev91 => ?_)
                                                    obtain rfl : v91 = fb30_2 (7 * (j2 + 1 - 1) + j6) := ev91.trans (by rw [nI_clamp (by omega)])
                                                    refine lv_iload (pc := 342) hx hb dX12_carry_342 (lv_at hl 3 rfl) ?_
                                                    refine c_Vv (pc := 344) (As := [.int (nI v9), .int (nI (j2 + 1)), .int (fb30_2 (7 * (j2 + 1 - 1) + j6)), .int (nI (tN (pA (40 * i + j4))))]) (rest := []) (wr := [(b6, .inl (g.2.1 1, 11, .inl rP)), (b9, .inl (g.2.1 1, 44, .inl rK)), (b11, .inl (g.2.1 1, 44, .inl rS)), (b21, .inl (g.2.1 1, 12, .inl pO)), (b22, .inl (g.2.1 1, 12, .inl pC)), (b23, .inl (g.2.1 1, 480, .inl pH)), (b24, .inl (g.2.1 1, 480, .inl pK)), (b25, .inl (g.2.1 1, 480, .inl pA)), (b28, .inl (g.2.1 1, 40, .inl pW)), (b29, .inl (g.2.1 1, 40, .inl pR))]) X hW 0 ciX12 rfl (K_X12_tells l g h0 vs b8 rD b30 fb30_2 b31 fb31_2 b32 fb32_6 b33 fb33_6 v9 j2 (fb30_2 (7 * (j2 + 1 - 1) + j6)) (tN (pA (40 * i + j4))) hlen h8_ h30_ h31_ h32_ h33_ (by omega) (by omega) (by omega)) vX12_260 [0, 2, 12, 13, 14, 15] [1, 3, 4, 5, 6, 7, 8, 9, 10, 11] rfl rfl rfl rfl rfl rfl hl.1 rfl (Nat.le_of_ble_eq_true rfl) ⟨Nat.le_of_ble_eq_true rfl, Nat.le_of_ble_eq_true rfl⟩ ⟨Nat.le_of_ble_eq_true rfl, Nat.le_of_ble_eq_true rfl⟩ dX12_carry_344 (fun u9 H locs hq hW => ?_)
                                                    obtain rfl := hq
                                                    have hW : WD g A s _ _ [(b6, .inl (g.2.1 1, 11, .inl rP)), (b9, .inl (g.2.1 1, 44, .inl rK)), (b11, .inl (g.2.1 1, 44, .inl rS)), (b21, .inl (g.2.1 1, 12, .inl pO)), (b22, .inl (g.2.1 1, 12, .inl pC)), (b23, .inl (g.2.1 1, 480, .inl pH)), (b24, .inl (g.2.1 1, 480, .inl pK)), (b25, .inl (g.2.1 1, 480, .inl pA)), (b28, .inl (g.2.1 1, 40, .inl pW)), (b29, .inl (g.2.1 1, 40, .inl pR)), (h0, .inr (12, vs)), (b8, .inl (g.2.1 1, 11, .inl rD)), (b30, .inl (g.2.1 1, 175, .inl fb30_2)), (b31, .inl (g.2.1 1, 175, .inl fb31_2)), (b32, .inl (g.2.1 1, 7, .inl ((F_X12_tells rD fb30_2 fb31_2 fb32_6 fb33_6 v9 j2 (fb30_2 (7 * (j2 + 1 - 1) + j6)) (tN (pA (40 * i + j4)))).1))), (b33, .inl (g.2.1 1, 7, .inl ((F_X12_tells rD fb30_2 fb31_2 fb32_6 fb33_6 v9 j2 (fb30_2 (7 * (j2 + 1 - 1) + j6)) (tN (pA (40 * i + j4)))).2)))] := hW
                                                    refine lv_iload (pc := 347) hx hb dX12_carry_347 (lv_at hl 0 rfl) ?_
                                                    refine lv_iconst (v := 4) (pc := 349) hx hb dX12_carry_349 (by decide) ?_
                                                    refine lv_icmp_ne (tgt := 376) (pc := 350) hx hb dX12_carry_350 rfl (fun c92 => ?_) (fun c92 => absurd c92 (fun q => absurd (c81.symm.trans q) (by decide)))
                                                    refine lv_iinc (v := nI (j6 + 1)) (lv' := [(11, .int (nI (j6 + 1))), (12, .int (pK (40 * i + j4))), (10, .int (fb30_2 (7 * (j2 + 1 - 1) + tN (pA (40 * i + j4))))), (9, .int (nI (tN (pA (40 * i + j4))))), (8, .int (nI (40 * i + j4))), (7, .int (nI j4)), (6, .int (nI (j2 + 1))), (5, .int (nI v9)), (0, .ref h0), (1, .int (nI i)), (2, .long lo), (4, .int wo)]) (pc := 376) hx hb dX12_carry_376 hl (k := 1) rfl (nI_add j6 1) (by decide) rfl (fun ls hl => ?_)
                                                    refine lv_goto (tgt := 236) (pc := 379) hx hb dX12_carry_379 rfl ?_
                                                    have hW : WD g A s _ _ [(h0, .inr (12, vs)), (b6, .inl (g.2.1 1, 11, .inl rP)), (b8, .inl (g.2.1 1, 11, .inl rD)), (b9, .inl (g.2.1 1, 44, .inl rK)), (b11, .inl (g.2.1 1, 44, .inl rS)), (b21, .inl (g.2.1 1, 12, .inl pO)), (b22, .inl (g.2.1 1, 12, .inl pC)), (b23, .inl (g.2.1 1, 480, .inl pH)), (b24, .inl (g.2.1 1, 480, .inl pK)), (b25, .inl (g.2.1 1, 480, .inl pA)), (b28, .inl (g.2.1 1, 40, .inl pW)), (b29, .inl (g.2.1 1, 40, .inl pR)), (b30, .inl (g.2.1 1, 175, .inl fb30_2)), (b31, .inl (g.2.1 1, 175, .inl fb31_2)), (b32, .inl (g.2.1 1, 7, .inl ((F_X12_tells rD fb30_2 fb31_2 fb32_6 fb33_6 v9 j2 (fb30_2 (7 * (j2 + 1 - 1) + j6)) (tN (pA (40 * i + j4)))).1))), (b33, .inl (g.2.1 1, 7, .inl ((F_X12_tells rD fb30_2 fb31_2 fb32_6 fb33_6 v9 j2 (fb30_2 (7 * (j2 + 1 - 1) + j6)) (tN (pA (40 * i + j4)))).2)))] := hW.pick [10, 0, 11, 1, 2, 3, 4, 5, 6, 7, 8, 9, 12, 13, 14, 15] rfl rfl
                                                    exact ih6 (j6 + 1) ((F_X12_tells rD fb30_2 fb31_2 fb32_6 fb33_6 v9 j2 (fb30_2 (7 * (j2 + 1 - 1) + j6)) (tN (pA (40 * i + j4)))).1) ((F_X12_tells rD fb30_2 fb31_2 fb32_6 fb33_6 v9 j2 (fb30_2 (7 * (j2 + 1 - 1) + j6)) (tN (pA (40 * i + j4)))).2) (by omega) (by omega) (by rw [L6_X12_carry, ← hst6]; exact (show L6_X12_carrys rD rS pK pA pR i v9 wo j2 fb30_2 fb31_2 j4 j6 fb32_6 fb33_6 = (((F_X12_tells rD fb30_2 fb31_2 fb32_6 fb33_6 v9 j2 (fb30_2 (7 * (j2 + 1 - 1) + j6)) (tN (pA (40 * i + j4)))).1), ((F_X12_tells rD fb30_2 fb31_2 fb32_6 fb33_6 v9 j2 (fb30_2 (7 * (j2 + 1 - 1) + j6)) (tN (pA (40 * i + j4)))).2)) from by rw [L6_X12_carrys, if_neg c57, if_neg c60, if_neg c63, if_neg c72, if_neg c78, if_pos c81]).symm) _ _ _ hW (lv_sub hl [0, 2, 3, 4, 5, 6, 7, 8, 9, 10, 11] rfl)
                                                · refine lv_aload_n (pc := 299) hx hb dX12_carry_299 rfl (lv_at hl 8 rfl) ?_
                                                  refine lv_iload (pc := 300) hx hb dX12_carry_300 (lv_at hl 7 rfl) ?_
                                                  refine lv_iload (pc := 302) hx hb dX12_carry_302 (lv_at hl 6 rfl) ?_
                                                  refine lv_iload (pc := 304) hx hb dX12_carry_304 (lv_at hl 2 rfl) ?_
                                                  refine lv_iload (pc := 306) hx hb dX12_carry_306 (lv_at hl 1 rfl) ?_
                                                  refine c_Vv (pc := 308) (As := [.int (nI v9), .int (nI (j2 + 1)), .int (fb30_2 (7 * (j2 + 1 - 1) + tN (pA (40 * i + j4)))), .int (nI j6)]) (rest := []) (wr := [(b6, .inl (g.2.1 1, 11, .inl rP)), (b9, .inl (g.2.1 1, 44, .inl rK)), (b11, .inl (g.2.1 1, 44, .inl rS)), (b21, .inl (g.2.1 1, 12, .inl pO)), (b22, .inl (g.2.1 1, 12, .inl pC)), (b23, .inl (g.2.1 1, 480, .inl pH)), (b24, .inl (g.2.1 1, 480, .inl pK)), (b25, .inl (g.2.1 1, 480, .inl pA)), (b28, .inl (g.2.1 1, 40, .inl pW)), (b29, .inl (g.2.1 1, 40, .inl pR))]) X hW 0 ciX12 rfl (K_X12_tells l g h0 vs b8 rD b30 fb30_2 b31 fb31_2 b32 fb32_6 b33 fb33_6 v9 j2 (fb30_2 (7 * (j2 + 1 - 1) + tN (pA (40 * i + j4)))) j6 hlen h8_ h30_ h31_ h32_ h33_ (by omega) (by omega) (by omega)) vX12_260 [0, 2, 12, 13, 14, 15] [1, 3, 4, 5, 6, 7, 8, 9, 10, 11] rfl rfl rfl rfl rfl rfl hl.1 rfl (Nat.le_of_ble_eq_true rfl) ⟨Nat.le_of_ble_eq_true rfl, Nat.le_of_ble_eq_true rfl⟩ ⟨Nat.le_of_ble_eq_true rfl, Nat.le_of_ble_eq_true rfl⟩ dX12_carry_308 (fun u9 H locs hq hW => ?_)
                                                  obtain rfl := hq
                                                  have hW : WD g A s _ _ [(b6, .inl (g.2.1 1, 11, .inl rP)), (b9, .inl (g.2.1 1, 44, .inl rK)), (b11, .inl (g.2.1 1, 44, .inl rS)), (b21, .inl (g.2.1 1, 12, .inl pO)), (b22, .inl (g.2.1 1, 12, .inl pC)), (b23, .inl (g.2.1 1, 480, .inl pH)), (b24, .inl (g.2.1 1, 480, .inl pK)), (b25, .inl (g.2.1 1, 480, .inl pA)), (b28, .inl (g.2.1 1, 40, .inl pW)), (b29, .inl (g.2.1 1, 40, .inl pR)), (h0, .inr (12, vs)), (b8, .inl (g.2.1 1, 11, .inl rD)), (b30, .inl (g.2.1 1, 175, .inl fb30_2)), (b31, .inl (g.2.1 1, 175, .inl fb31_2)), (b32, .inl (g.2.1 1, 7, .inl ((F_X12_tells rD fb30_2 fb31_2 fb32_6 fb33_6 v9 j2 (fb30_2 (7 * (j2 + 1 - 1) + tN (pA (40 * i + j4)))) j6).1))), (b33, .inl (g.2.1 1, 7, .inl ((F_X12_tells rD fb30_2 fb31_2 fb32_6 fb33_6 v9 j2 (fb30_2 (7 * (j2 + 1 - 1) + tN (pA (40 * i + j4)))) j6).2)))] := hW
                                                  refine lv_iload (pc := 311) hx hb dX12_carry_311 (lv_at hl 0 rfl) ?_
                                                  refine lv_if_eq (tgt := 322) (pc := 313) hx hb dX12_carry_313 rfl (fun c94 => absurd c94 (fun q => absurd (c78.symm.trans q) (by decide))) (fun c94 => ?_)
                                                  refine lv_iload (pc := 316) hx hb dX12_carry_316 (lv_at hl 0 rfl) ?_
                                                  refine lv_iconst (v := 2) (pc := 318) hx hb dX12_carry_318 (by decide) ?_
                                                  refine lv_icmp_ne (tgt := 347) (pc := 319) hx hb dX12_carry_319 rfl (fun c95 => ?_) (fun c95 => absurd c95 (fun q => absurd (c78.symm.trans q) (by decide)))
                                                  refine lv_iload (pc := 347) hx hb dX12_carry_347 (lv_at hl 0 rfl) ?_
                                                  refine lv_iconst (v := 4) (pc := 349) hx hb dX12_carry_349 (by decide) ?_
                                                  refine lv_icmp_ne (tgt := 376) (pc := 350) hx hb dX12_carry_350 rfl (fun c96 => ?_) (fun c96 => absurd c96 (fun q => absurd (c78.symm.trans q) (by decide)))
                                                  refine lv_iinc (v := nI (j6 + 1)) (lv' := [(11, .int (nI (j6 + 1))), (12, .int (pK (40 * i + j4))), (10, .int (fb30_2 (7 * (j2 + 1 - 1) + tN (pA (40 * i + j4))))), (9, .int (nI (tN (pA (40 * i + j4))))), (8, .int (nI (40 * i + j4))), (7, .int (nI j4)), (6, .int (nI (j2 + 1))), (5, .int (nI v9)), (0, .ref h0), (1, .int (nI i)), (2, .long lo), (4, .int wo)]) (pc := 376) hx hb dX12_carry_376 hl (k := 1) rfl (nI_add j6 1) (by decide) rfl (fun ls hl => ?_)
                                                  refine lv_goto (tgt := 236) (pc := 379) hx hb dX12_carry_379 rfl ?_
                                                  have hW : WD g A s _ _ [(h0, .inr (12, vs)), (b6, .inl (g.2.1 1, 11, .inl rP)), (b8, .inl (g.2.1 1, 11, .inl rD)), (b9, .inl (g.2.1 1, 44, .inl rK)), (b11, .inl (g.2.1 1, 44, .inl rS)), (b21, .inl (g.2.1 1, 12, .inl pO)), (b22, .inl (g.2.1 1, 12, .inl pC)), (b23, .inl (g.2.1 1, 480, .inl pH)), (b24, .inl (g.2.1 1, 480, .inl pK)), (b25, .inl (g.2.1 1, 480, .inl pA)), (b28, .inl (g.2.1 1, 40, .inl pW)), (b29, .inl (g.2.1 1, 40, .inl pR)), (b30, .inl (g.2.1 1, 175, .inl fb30_2)), (b31, .inl (g.2.1 1, 175, .inl fb31_2)), (b32, .inl (g.2.1 1, 7, .inl ((F_X12_tells rD fb30_2 fb31_2 fb32_6 fb33_6 v9 j2 (fb30_2 (7 * (j2 + 1 - 1) + tN (pA (40 * i + j4)))) j6).1))), (b33, .inl (g.2.1 1, 7, .inl ((F_X12_tells rD fb30_2 fb31_2 fb32_6 fb33_6 v9 j2 (fb30_2 (7 * (j2 + 1 - 1) + tN (pA (40 * i + j4)))) j6).2)))] := hW.pick [10, 0, 11, 1, 2, 3, 4, 5, 6, 7, 8, 9, 12, 13, 14, 15] rfl rfl
                                                  exact ih6 (j6 + 1) ((F_X12_tells rD fb30_2 fb31_2 fb32_6 fb33_6 v9 j2 (fb30_2 (7 * (j2 + 1 - 1) + tN (pA (40 * i + j4)))) j6).1) ((F_X12_tells rD fb30_2 fb31_2 fb32_6 fb33_6 v9 j2 (fb30_2 (7 * (j2 + 1 - 1) + tN (pA (40 * i + j4)))) j6).2) (by omega) (by omega) (by rw [L6_X12_carry, ← hst6]; exact (show L6_X12_carrys rD rS pK pA pR i v9 wo j2 fb30_2 fb31_2 j4 j6 fb32_6 fb33_6 = (((F_X12_tells rD fb30_2 fb31_2 fb32_6 fb33_6 v9 j2 (fb30_2 (7 * (j2 + 1 - 1) + tN (pA (40 * i + j4)))) j6).1), ((F_X12_tells rD fb30_2 fb31_2 fb32_6 fb33_6 v9 j2 (fb30_2 (7 * (j2 + 1 - 1) + tN (pA (40 * i + j4)))) j6).2)) from by rw [L6_X12_carrys, if_neg c57, if_neg c60, if_neg c63, if_neg c72, if_pos c78]).symm) _ _ _ hW (lv_sub hl [0, 2, 3, 4, 5, 6, 7, 8, 9, 10, 11] rfl)
                                          · refine lv_goto (tgt := 376) (pc := 270) hx hb dX12_carry_270 rfl ?_
                                            refine lv_iinc (v := nI (j6 + 1)) (lv' := [(11, .int (nI (j6 + 1))), (10, .int (fb30_2 (7 * (j2 + 1 - 1) + tN (pA (40 * i + j4))))), (9, .int (nI (tN (pA (40 * i + j4))))), (8, .int (nI (40 * i + j4))), (7, .int (nI j4)), (6, .int (nI (j2 + 1))), (5, .int (nI v9)), (0, .ref h0), (1, .int (nI i)), (2, .long lo), (4, .int wo)]) (pc := 376) hx hb dX12_carry_376 hl (k := 0) rfl (nI_add j6 1) (by decide) rfl (fun ls hl => ?_)
                                            refine lv_goto (tgt := 236) (pc := 379) hx hb dX12_carry_379 rfl ?_
                                            exact ih6 (j6 + 1) fb32_6 fb33_6 (by omega) (by omega) (by rw [L6_X12_carry, ← hst6]; exact (show L6_X12_carrys rD rS pK pA pR i v9 wo j2 fb30_2 fb31_2 j4 j6 fb32_6 fb33_6 = (fb32_6, fb33_6) from by rw [L6_X12_carrys, if_neg c57, if_pos c60]).symm) _ _ _ hW (lv_sub hl [0, 1, 2, 3, 4, 5, 6, 7, 8, 9, 10] rfl)
                                  exact loop6 (pe + 1) 0 fb32_4 fb33_4 (by omega) (by omega) rfl _ _ _ hW (lv_sub hl [0, 1, 2, 3, 4, 5, 6, 7, 8, 9, 10] rfl)
                                · refine lv_goto (tgt := 382) (pc := 204) hx hb dX12_carry_204 rfl ?_
                                  refine lv_iinc (v := nI (j4 + 1)) (lv' := [(7, .int (nI (j4 + 1))), (8, .int (nI (40 * i + j4))), (6, .int (nI (j2 + 1))), (5, .int (nI v9)), (0, .ref h0), (1, .int (nI i)), (2, .long lo), (4, .int wo)]) (pc := 382) hx hb dX12_carry_382 hl (k := 1) rfl (nI_add j4 1) (by decide) rfl (fun ls hl => ?_)
                                  refine lv_goto (tgt := 139) (pc := 385) hx hb dX12_carry_385 rfl ?_
                                  exact ih4 (j4 + 1) fb32_4 fb33_4 (by omega) (by omega) (by rw [L4_X12_carry, ← hst4]; exact (show L4_X12_carrys rD rS pH pK pA pW pR pe i v9 lo wo j2 fb30_2 fb31_2 j4 fb32_4 fb33_4 = (fb32_4, fb33_4) from by rw [L4_X12_carrys, if_pos c33, if_pos c37, if_neg c41, if_pos c45]).symm) _ _ _ hW (lv_sub hl [0, 2, 3, 4, 5, 6, 7] rfl)
                    exact loop4 (cn + 1) 0 ((L3_X12_carry fb32_2 fb33_2 pe).1) ((L3_X12_carry fb32_2 fb33_2 pe).2) (by omega) (by omega) rfl _ _ _ hW (lv_sub hl [0, 1, 2, 3, 4, 5, 6] rfl)
                  · have h99 : ¬ (pe ≤ j3) := fun q => c9 ((nI_leI (a := pe) (b := j3) (by omega) (by omega)).mpr q)
                    refine lv_aload_n (pc := 114) hx hb dX12_carry_114 rfl (lv_at hl 3 rfl) ?_
                    refine r_get X hW 0 ciX12 32 rfl (by decide) m_1263 rfl h32_ dX12_carry_115 ?_
                    refine lv_iload (pc := 118) hx hb dX12_carry_118 (lv_at hl 0 rfl) ?_
                    refine lv_iconst (v := 0) (pc := 120) hx hb dX12_carry_120 (by decide) ?_
                    refine r_iast (ws' := [(h0, .inr (12, vs)), (b6, .inl (g.2.1 1, 11, .inl rP)), (b8, .inl (g.2.1 1, 11, .inl rD)), (b9, .inl (g.2.1 1, 44, .inl rK)), (b11, .inl (g.2.1 1, 44, .inl rS)), (b21, .inl (g.2.1 1, 12, .inl pO)), (b22, .inl (g.2.1 1, 12, .inl pC)), (b23, .inl (g.2.1 1, 480, .inl pH)), (b24, .inl (g.2.1 1, 480, .inl pK)), (b25, .inl (g.2.1 1, 480, .inl pA)), (b28, .inl (g.2.1 1, 40, .inl pW)), (b29, .inl (g.2.1 1, 40, .inl pR)), (b30, .inl (g.2.1 1, 175, .inl fb30_2)), (b31, .inl (g.2.1 1, 175, .inl fb31_2)), (b32, .inl (g.2.1 1, 7, .inl (upd fb32_3 j3 (0 : Int32)))), (b33, .inl (g.2.1 1, 7, .inl fb33_3))]) X hW 14 rfl (vp_in_nI (by omega) (by decide)) (f' := (upd fb32_3 j3 (0 : Int32))) (by rw [nI_clamp (by omega)]) rfl dX12_carry_121 (fun H locs hW => ?_)
                    refine lv_aload_n (pc := 122) hx hb dX12_carry_122 rfl (lv_at hl 3 rfl) ?_
                    refine r_get X hW 0 ciX12 33 rfl (by decide) m_1264 rfl h33_ dX12_carry_123 ?_
                    refine lv_iload (pc := 126) hx hb dX12_carry_126 (lv_at hl 0 rfl) ?_
                    refine lv_iconst (v := 0) (pc := 128) hx hb dX12_carry_128 (by decide) ?_
                    refine r_iast (ws' := [(h0, .inr (12, vs)), (b6, .inl (g.2.1 1, 11, .inl rP)), (b8, .inl (g.2.1 1, 11, .inl rD)), (b9, .inl (g.2.1 1, 44, .inl rK)), (b11, .inl (g.2.1 1, 44, .inl rS)), (b21, .inl (g.2.1 1, 12, .inl pO)), (b22, .inl (g.2.1 1, 12, .inl pC)), (b23, .inl (g.2.1 1, 480, .inl pH)), (b24, .inl (g.2.1 1, 480, .inl pK)), (b25, .inl (g.2.1 1, 480, .inl pA)), (b28, .inl (g.2.1 1, 40, .inl pW)), (b29, .inl (g.2.1 1, 40, .inl pR)), (b30, .inl (g.2.1 1, 175, .inl fb30_2)), (b31, .inl (g.2.1 1, 175, .inl fb31_2)), (b32, .inl (g.2.1 1, 7, .inl (upd fb32_3 j3 (0 : Int32)))), (b33, .inl (g.2.1 1, 7, .inl (upd fb33_3 j3 (0 : Int32))))]) X hW 15 rfl (vp_in_nI (by omega) (by decide)) (f' := (upd fb33_3 j3 (0 : Int32))) (by rw [nI_clamp (by omega)]) rfl dX12_carry_129 (fun H locs hW => ?_)
                    refine lv_iinc (v := nI (j3 + 1)) (lv' := [(7, .int (nI (j3 + 1))), (6, .int (nI (j2 + 1))), (5, .int (nI v9)), (0, .ref h0), (1, .int (nI i)), (2, .long lo), (4, .int wo)]) (pc := 130) hx hb dX12_carry_130 hl (k := 0) rfl (nI_add j3 1) (by decide) rfl (fun ls hl => ?_)
                    refine lv_goto (tgt := 102) (pc := 133) hx hb dX12_carry_133 rfl ?_
                    exact ih3 (j3 + 1) (upd fb32_3 j3 (0 : Int32)) (upd fb33_3 j3 (0 : Int32)) (by omega) (by omega) (by rw [L3_X12_carry, ← hst3]; exact (show L3_X12_carrys  j3 fb32_3 fb33_3 = ((upd fb32_3 j3 (0 : Int32)), (upd fb33_3 j3 (0 : Int32))) from rfl).symm) _ _ _ hW (lv_sub hl [0, 1, 2, 3, 4, 5, 6] rfl)
              exact loop3 (pe + 1) 0 fb32_2 fb33_2 (by omega) (by omega) rfl _ _ _ hW (lv_sub hl [0, 1, 2, 3, 4, 5, 6] rfl)
        exact loop2 (24 + 1) 0 ((L1_X12_carry rK v9 aF oN pe).1) ((L1_X12_carry rK v9 aF oN pe).2) fR tW (by omega) (by omega) rfl _ _ _ hW (lv_sub hl [0, 1, 2, 3, 4, 5] rfl)
      · have h100 : ¬ (pe ≤ j1) := fun q => c3 ((nI_leI (a := pe) (b := j1) (by omega) (by omega)).mpr q)
        refine lv_iconst (v := 0) (pc := 23) hx hb dX12_carry_23 (by decide) ?_
        refine lv_istore (lv' := [(7, .int 0), (6, .int (nI j1)), (5, .int (nI v9)), (0, .ref h0), (1, .int (nI i)), (2, .long lo), (4, .int wo)]) (pc := 24) hx hb dX12_carry_24 hl (by decide) rfl (fun ls hl => ?_)
        refine lv_iconst (v := 0) (pc := 26) hx hb dX12_carry_26 (by decide) ?_
        refine lv_istore (lv' := [(8, .int 0), (7, .int 0), (6, .int (nI j1)), (5, .int (nI v9)), (0, .ref h0), (1, .int (nI i)), (2, .long lo), (4, .int wo)]) (pc := 27) hx hb dX12_carry_27 hl (by decide) rfl (fun ls hl => ?_)
        have loop7 : ∀ (fu7 : Nat) (j7 : Nat) (x7_7 : Int32), (4 < fu7 + j7) → (j7 ≤ 4) → (x7_7 = L7_X12_carry rK v9 j1 (0 : Int32) j7) → ∀ (H : Heap) (locs : List Loc) (ls : Array Slot), WD g A s H locs [(h0, .inr (12, vs)), (b6, .inl (g.2.1 1, 11, .inl rP)), (b8, .inl (g.2.1 1, 11, .inl rD)), (b9, .inl (g.2.1 1, 44, .inl rK)), (b11, .inl (g.2.1 1, 44, .inl rS)), (b21, .inl (g.2.1 1, 12, .inl pO)), (b22, .inl (g.2.1 1, 12, .inl pC)), (b23, .inl (g.2.1 1, 480, .inl pH)), (b24, .inl (g.2.1 1, 480, .inl pK)), (b25, .inl (g.2.1 1, 480, .inl pA)), (b28, .inl (g.2.1 1, 40, .inl pW)), (b29, .inl (g.2.1 1, 40, .inl pR)), (b30, .inl (g.2.1 1, 175, .inl fb30_1)), (b31, .inl (g.2.1 1, 175, .inl fb31_1)), (b32, .inl (g.2.1 1, 7, .inl fR)), (b33, .inl (g.2.1 1, 7, .inl tW))] → lv_has ls 13 [(8, .int (nI j7)), (7, .int x7_7), (6, .int (nI j1)), (5, .int (nI v9)), (0, .ref h0), (1, .int (nI i)), (2, .long lo), (4, .int wo)] → W p l e (RM 1 0 0) s m args below meth c H locs 0 0 Q (F0 m 29 ls []) := by
          intro fu7
          induction fu7 with
          | zero =>
            intro j7 x7_7 hm7 hj7 hst7
            exact absurd hm7 (by omega)
          | succ fu7 ih7 =>
            intro j7 x7_7 hm7 hj7 hst7 H locs ls hW hl
            refine lv_iload (pc := 29) hx hb dX12_carry_29 (lv_at hl 0 rfl) ?_
            refine lv_iconst (v := 4) (pc := 31) hx hb dX12_carry_31 (by decide) ?_
            refine lv_icmp_ge (tgt := 66) (pc := 32) hx hb dX12_carry_32 rfl (fun c101 => ?_) (fun c101 => ?_)
            · have h102 : 4 ≤ j7 := (nI_leI (a := 4) (b := j7) (by omega) (by omega)).mp c101
              have hN7 : j7 = 4 := by omega
              rw [hN7] at hst7
              subst hst7
              have hW : WD g A s _ _ [(h0, .inr (12, vs)), (b6, .inl (g.2.1 1, 11, .inl rP)), (b8, .inl (g.2.1 1, 11, .inl rD)), (b9, .inl (g.2.1 1, 44, .inl rK)), (b11, .inl (g.2.1 1, 44, .inl rS)), (b21, .inl (g.2.1 1, 12, .inl pO)), (b22, .inl (g.2.1 1, 12, .inl pC)), (b23, .inl (g.2.1 1, 480, .inl pH)), (b24, .inl (g.2.1 1, 480, .inl pK)), (b25, .inl (g.2.1 1, 480, .inl pA)), (b28, .inl (g.2.1 1, 40, .inl pW)), (b29, .inl (g.2.1 1, 40, .inl pR)), (b30, .inl (g.2.1 1, 175, .inl fb30_1)), (b31, .inl (g.2.1 1, 175, .inl fb31_1)), (b32, .inl (g.2.1 1, 7, .inl fR)), (b33, .inl (g.2.1 1, 7, .inl tW))] := hW
              refine lv_aload_n (pc := 66) hx hb dX12_carry_66 rfl (lv_at hl 4 rfl) ?_
              refine r_get X hW 0 ciX12 30 rfl (by decide) m_1261 rfl h30_ dX12_carry_67 ?_
              refine lv_iload (pc := 70) hx hb dX12_carry_70 (lv_at hl 2 rfl) ?_
              refine lv_iload (pc := 72) hx hb dX12_carry_72 (lv_at hl 1 rfl) ?_
              refine r_iast (ws' := [(h0, .inr (12, vs)), (b6, .inl (g.2.1 1, 11, .inl rP)), (b8, .inl (g.2.1 1, 11, .inl rD)), (b9, .inl (g.2.1 1, 44, .inl rK)), (b11, .inl (g.2.1 1, 44, .inl rS)), (b21, .inl (g.2.1 1, 12, .inl pO)), (b22, .inl (g.2.1 1, 12, .inl pC)), (b23, .inl (g.2.1 1, 480, .inl pH)), (b24, .inl (g.2.1 1, 480, .inl pK)), (b25, .inl (g.2.1 1, 480, .inl pA)), (b28, .inl (g.2.1 1, 40, .inl pW)), (b29, .inl (g.2.1 1, 40, .inl pR)), (b30, .inl (g.2.1 1, 175, .inl (upd fb30_1 j1 (L7_X12_carry rK v9 j1 (0 : Int32) 4)))), (b31, .inl (g.2.1 1, 175, .inl fb31_1)), (b32, .inl (g.2.1 1, 7, .inl fR)), (b33, .inl (g.2.1 1, 7, .inl tW))]) X hW 12 rfl (vp_in_nI (by omega) (by decide)) (f' := (upd fb30_1 j1 (L7_X12_carry rK v9 j1 (0 : Int32) 4))) (by rw [nI_clamp (by omega)]) rfl dX12_carry_74 (fun H locs hW => ?_)
              refine lv_aload_n (pc := 75) hx hb dX12_carry_75 rfl (lv_at hl 4 rfl) ?_
              refine r_get X hW 0 ciX12 31 rfl (by decide) m_1262 rfl h31_ dX12_carry_76 ?_
              refine lv_iload (pc := 79) hx hb dX12_carry_79 (lv_at hl 2 rfl) ?_
              refine lv_iconst (v := 0) (pc := 81) hx hb dX12_carry_81 (by decide) ?_
              refine r_iast (ws' := [(h0, .inr (12, vs)), (b6, .inl (g.2.1 1, 11, .inl rP)), (b8, .inl (g.2.1 1, 11, .inl rD)), (b9, .inl (g.2.1 1, 44, .inl rK)), (b11, .inl (g.2.1 1, 44, .inl rS)), (b21, .inl (g.2.1 1, 12, .inl pO)), (b22, .inl (g.2.1 1, 12, .inl pC)), (b23, .inl (g.2.1 1, 480, .inl pH)), (b24, .inl (g.2.1 1, 480, .inl pK)), (b25, .inl (g.2.1 1, 480, .inl pA)), (b28, .inl (g.2.1 1, 40, .inl pW)), (b29, .inl (g.2.1 1, 40, .inl pR)), (b30, .inl (g.2.1 1, 175, .inl (upd fb30_1 j1 (L7_X12_carry rK v9 j1 (0 : Int32) 4)))), (b31, .inl (g.2.1 1, 175, .inl (upd fb31_1 j1 (0 : Int32)))), (b32, .inl (g.2.1 1, 7, .inl fR)), (b33, .inl (g.2.1 1, 7, .inl tW))]) X hW 13 rfl (vp_in_nI (by omega) (by decide)) (f' := (upd fb31_1 j1 (0 : Int32))) (by rw [nI_clamp (by omega)]) rfl dX12_carry_82 (fun H locs hW => ?_)
              refine lv_iinc (v := nI (j1 + 1)) (lv' := [(6, .int (nI (j1 + 1))), (8, .int (nI j7)), (7, .int (L7_X12_carry rK v9 j1 (0 : Int32) 4)), (5, .int (nI v9)), (0, .ref h0), (1, .int (nI i)), (2, .long lo), (4, .int wo)]) (pc := 83) hx hb dX12_carry_83 hl (k := 2) rfl (nI_add j1 1) (by decide) rfl (fun ls hl => ?_)
              refine lv_goto (tgt := 11) (pc := 86) hx hb dX12_carry_86 rfl ?_
              exact ih1 (j1 + 1) (upd fb30_1 j1 (L7_X12_carry rK v9 j1 (0 : Int32) 4)) (upd fb31_1 j1 (0 : Int32)) (by omega) (by omega) (by rw [L1_X12_carry, ← hst1]; exact (show L1_X12_carrys rK v9 j1 fb30_1 fb31_1 = ((upd fb30_1 j1 (L7_X12_carry rK v9 j1 (0 : Int32) 4)), (upd fb31_1 j1 (0 : Int32))) from rfl).symm) _ _ _ hW (lv_sub hl [0, 3, 4, 5, 6, 7] rfl)
            · have h103 : ¬ (4 ≤ j7) := fun q => c101 ((nI_leI (a := 4) (b := j7) (by omega) (by omega)).mpr q)
              refine lv_iload (pc := 35) hx hb dX12_carry_35 (lv_at hl 1 rfl) ?_
              refine lv_aload_n (pc := 37) hx hb dX12_carry_37 rfl (lv_at hl 4 rfl) ?_
              refine r_get X hW 0 ciX12 9 rfl (by decide) m_1240 rfl h9_ dX12_carry_38 ?_
              refine lv_iconst (v := 4) (pc := 41) hx hb dX12_carry_41 (by decide) ?_
              refine lv_iload (pc := 42) hx hb dX12_carry_42 (lv_at hl 3 rfl) ?_
              refine lv_imul (pc := 44) hx hb dX12_carry_44 ?_
              refine lv_topi (fun v104 ev104 => ?_)
              obtain rfl : v104 = nI (4 * v9) := ev104.trans (pk_mul 4 v9)
              refine lv_iload (pc := 45) hx hb dX12_carry_45 (lv_at hl 0 rfl) ?_
              refine lv_iadd (pc := 47) hx hb dX12_carry_47 ?_
              refine lv_topi (fun v105 ev105 => ?_)
              obtain rfl : v105 = nI (4 * v9 + j7) := ev105.trans (nI_add _ _)
              refine r_iald X hW 3 rfl (vp_in_nI (by omega) (by decide)) dX12_carry_48 ?_
              refine lv_topi (fun v106 ev106 => ?_)
              obtain rfl : v106 = rK (4 * v9 + j7) := ev106.trans (by rw [nI_clamp (by omega)])
              refine lv_iload (pc := 49) hx hb dX12_carry_49 (lv_at hl 2 rfl) ?_
              refine lv_ishr (pc := 51) hx hb dX12_carry_51 ?_
              refine lv_iconst (v := 1) (pc := 52) hx hb dX12_carry_52 (by decide) ?_
              refine lv_iand (pc := 53) hx hb dX12_carry_53 ?_
              refine lv_iload (pc := 54) hx hb dX12_carry_54 (lv_at hl 0 rfl) ?_
              refine lv_ishl (pc := 56) hx hb dX12_carry_56 ?_
              refine lv_ior (pc := 57) hx hb dX12_carry_57 ?_
              refine lv_istore (lv' := [(7, .int (x7_7 ||| ((((rK (4 * v9 + j7)) >>> ((nI j1) &&& 31)) &&& (1 : Int32)) <<< ((nI j7) &&& 31)))), (8, .int (nI j7)), (6, .int (nI j1)), (5, .int (nI v9)), (0, .ref h0), (1, .int (nI i)), (2, .long lo), (4, .int wo)]) (pc := 58) hx hb dX12_carry_58 hl (by decide) rfl (fun ls hl => ?_)
              refine lv_iinc (v := nI (j7 + 1)) (lv' := [(8, .int (nI (j7 + 1))), (7, .int (x7_7 ||| ((((rK (4 * v9 + j7)) >>> ((nI j1) &&& 31)) &&& (1 : Int32)) <<< ((nI j7) &&& 31)))), (6, .int (nI j1)), (5, .int (nI v9)), (0, .ref h0), (1, .int (nI i)), (2, .long lo), (4, .int wo)]) (pc := 60) hx hb dX12_carry_60 hl (k := 1) rfl (nI_add j7 1) (by decide) rfl (fun ls hl => ?_)
              refine lv_goto (tgt := 29) (pc := 63) hx hb dX12_carry_63 rfl ?_
              exact ih7 (j7 + 1) (x7_7 ||| ((((rK (4 * v9 + j7)) >>> ((nI j1) &&& 31)) &&& (1 : Int32)) <<< ((nI j7) &&& 31))) (by omega) (by omega) (by rw [L7_X12_carry, ← hst7]; exact (show L7_X12_carrys rK v9 j1 j7 x7_7 = x7_7 ||| ((((rK (4 * v9 + j7)) >>> ((nI j1) &&& 31)) &&& (1 : Int32)) <<< ((nI j7) &&& 31)) from rfl).symm) _ _ _ hW (lv_sub hl [0, 1, 2, 3, 4, 5, 6, 7] rfl)
        exact loop7 (4 + 1) 0 (0 : Int32) (by omega) (by omega) rfl _ _ _ hW (lv_sub hl [0, 1, 2, 3, 4, 5, 6, 7] rfl)
  exact loop1 (pe + 1) 0 aF oN (by omega) (by omega) rfl _ _ _ hW (lv_sub hl [0, 1, 2, 3, 4, 5] rfl)

theorem dX9_placeOf_0 : decode cX9_placeOf 0 = .ok (.iload_n 0, 1) := DX9_placeOf _ _ _ rfl
theorem dX9_placeOf_1 : decode cX9_placeOf 1 = .ok (.iconst 1, 1) := DX9_placeOf _ _ _ rfl
theorem dX9_placeOf_2 : decode cX9_placeOf 2 = .ok (.ishr, 1) := DX9_placeOf _ _ _ rfl
theorem dX9_placeOf_3 : decode cX9_placeOf 3 = .ok (.bipush 15, 2) := DX9_placeOf _ _ _ rfl
theorem dX9_placeOf_5 : decode cX9_placeOf 5 = .ok (.iand, 1) := DX9_placeOf _ _ _ rfl
theorem dX9_placeOf_6 : decode cX9_placeOf 6 = .ok (.iload_n 0, 1) := DX9_placeOf _ _ _ rfl
theorem dX9_placeOf_7 : decode cX9_placeOf 7 = .ok (.bipush 6, 2) := DX9_placeOf _ _ _ rfl
theorem dX9_placeOf_9 : decode cX9_placeOf 9 = .ok (.ishr, 1) := DX9_placeOf _ _ _ rfl
theorem dX9_placeOf_10 : decode cX9_placeOf 10 = .ok (.bipush 15, 2) := DX9_placeOf _ _ _ rfl
theorem dX9_placeOf_12 : decode cX9_placeOf 12 = .ok (.iand, 1) := DX9_placeOf _ _ _ rfl
theorem dX9_placeOf_13 : decode cX9_placeOf 13 = .ok (.iconst 4, 1) := DX9_placeOf _ _ _ rfl
theorem dX9_placeOf_14 : decode cX9_placeOf 14 = .ok (.ishl, 1) := DX9_placeOf _ _ _ rfl
theorem dX9_placeOf_15 : decode cX9_placeOf 15 = .ok (.ior, 1) := DX9_placeOf _ _ _ rfl
theorem dX9_placeOf_16 : decode cX9_placeOf 16 = .ok (.iload_n 0, 1) := DX9_placeOf _ _ _ rfl
theorem dX9_placeOf_17 : decode cX9_placeOf 17 = .ok (.bipush 11, 2) := DX9_placeOf _ _ _ rfl
theorem dX9_placeOf_19 : decode cX9_placeOf 19 = .ok (.ishr, 1) := DX9_placeOf _ _ _ rfl
theorem dX9_placeOf_20 : decode cX9_placeOf 20 = .ok (.bipush 15, 2) := DX9_placeOf _ _ _ rfl
theorem dX9_placeOf_22 : decode cX9_placeOf 22 = .ok (.iand, 1) := DX9_placeOf _ _ _ rfl
theorem dX9_placeOf_23 : decode cX9_placeOf 23 = .ok (.bipush 8, 2) := DX9_placeOf _ _ _ rfl
theorem dX9_placeOf_25 : decode cX9_placeOf 25 = .ok (.ishl, 1) := DX9_placeOf _ _ _ rfl
theorem dX9_placeOf_26 : decode cX9_placeOf 26 = .ok (.ior, 1) := DX9_placeOf _ _ _ rfl
theorem dX9_placeOf_27 : decode cX9_placeOf 27 = .ok (.ireturn, 1) := DX9_placeOf _ _ _ rfl
theorem dX9_stateAt_0 : decode cX9_stateAt 0 = .ok (.ldc 31, 2) := DX9_stateAt _ _ _ rfl
theorem dX9_stateAt_2 : decode cX9_stateAt 2 = .ok (.iload_n 0, 1) := DX9_stateAt _ _ _ rfl
theorem dX9_stateAt_3 : decode cX9_stateAt 3 = .ok (.bipush 15, 2) := DX9_stateAt _ _ _ rfl
theorem dX9_stateAt_5 : decode cX9_stateAt 5 = .ok (.iand, 1) := DX9_stateAt _ _ _ rfl
theorem dX9_stateAt_6 : decode cX9_stateAt 6 = .ok (.iconst 1, 1) := DX9_stateAt _ _ _ rfl
theorem dX9_stateAt_7 : decode cX9_stateAt 7 = .ok (.ishl, 1) := DX9_stateAt _ _ _ rfl
theorem dX9_stateAt_8 : decode cX9_stateAt 8 = .ok (.ior, 1) := DX9_stateAt _ _ _ rfl
theorem dX9_stateAt_9 : decode cX9_stateAt 9 = .ok (.iload_n 0, 1) := DX9_stateAt _ _ _ rfl
theorem dX9_stateAt_10 : decode cX9_stateAt 10 = .ok (.iconst 4, 1) := DX9_stateAt _ _ _ rfl
theorem dX9_stateAt_11 : decode cX9_stateAt 11 = .ok (.ishr, 1) := DX9_stateAt _ _ _ rfl
theorem dX9_stateAt_12 : decode cX9_stateAt 12 = .ok (.bipush 15, 2) := DX9_stateAt _ _ _ rfl
theorem dX9_stateAt_14 : decode cX9_stateAt 14 = .ok (.iand, 1) := DX9_stateAt _ _ _ rfl
theorem dX9_stateAt_15 : decode cX9_stateAt 15 = .ok (.bipush 6, 2) := DX9_stateAt _ _ _ rfl
theorem dX9_stateAt_17 : decode cX9_stateAt 17 = .ok (.ishl, 1) := DX9_stateAt _ _ _ rfl
theorem dX9_stateAt_18 : decode cX9_stateAt 18 = .ok (.ior, 1) := DX9_stateAt _ _ _ rfl
theorem dX9_stateAt_19 : decode cX9_stateAt 19 = .ok (.iload_n 0, 1) := DX9_stateAt _ _ _ rfl
theorem dX9_stateAt_20 : decode cX9_stateAt 20 = .ok (.bipush 8, 2) := DX9_stateAt _ _ _ rfl
theorem dX9_stateAt_22 : decode cX9_stateAt 22 = .ok (.ishr, 1) := DX9_stateAt _ _ _ rfl
theorem dX9_stateAt_23 : decode cX9_stateAt 23 = .ok (.bipush 15, 2) := DX9_stateAt _ _ _ rfl
theorem dX9_stateAt_25 : decode cX9_stateAt 25 = .ok (.iand, 1) := DX9_stateAt _ _ _ rfl
theorem dX9_stateAt_26 : decode cX9_stateAt 26 = .ok (.bipush 11, 2) := DX9_stateAt _ _ _ rfl
theorem dX9_stateAt_28 : decode cX9_stateAt 28 = .ok (.ishl, 1) := DX9_stateAt _ _ _ rfl
theorem dX9_stateAt_29 : decode cX9_stateAt 29 = .ok (.ior, 1) := DX9_stateAt _ _ _ rfl
theorem dX9_stateAt_30 : decode cX9_stateAt 30 = .ok (.ireturn, 1) := DX9_stateAt _ _ _ rfl
theorem dX9_join_0 : decode cX9_join 0 = .ok (.iconst 4, 1) := DX9_join _ _ _ rfl
theorem dX9_join_1 : decode cX9_join 1 = .ok (.getstatic 18, 3) := DX9_join _ _ _ rfl
theorem dX9_join_4 : decode cX9_join 4 = .ok (.iload_n 1, 1) := DX9_join _ _ _ rfl
theorem dX9_join_5 : decode cX9_join 5 = .ok (.iaload, 1) := DX9_join _ _ _ rfl
theorem dX9_join_6 : decode cX9_join 6 = .ok (.imul, 1) := DX9_join _ _ _ rfl
theorem dX9_join_7 : decode cX9_join 7 = .ok (.istore_n 2, 1) := DX9_join _ _ _ rfl
theorem dX9_join_8 : decode cX9_join 8 = .ok (.iconst 4, 1) := DX9_join _ _ _ rfl
theorem dX9_join_9 : decode cX9_join 9 = .ok (.getstatic 86, 3) := DX9_join _ _ _ rfl
theorem dX9_join_12 : decode cX9_join 12 = .ok (.iload_n 1, 1) := DX9_join _ _ _ rfl
theorem dX9_join_13 : decode cX9_join 13 = .ok (.iaload, 1) := DX9_join _ _ _ rfl
theorem dX9_join_14 : decode cX9_join 14 = .ok (.imul, 1) := DX9_join _ _ _ rfl
theorem dX9_join_15 : decode cX9_join 15 = .ok (.istore_n 3, 1) := DX9_join _ _ _ rfl
theorem dX9_join_16 : decode cX9_join 16 = .ok (.iload_n 0, 1) := DX9_join _ _ _ rfl
theorem dX9_join_17 : decode cX9_join 17 = .ok (.iload_n 2, 1) := DX9_join _ _ _ rfl
theorem dX9_join_18 : decode cX9_join 18 = .ok (.ishr, 1) := DX9_join _ _ _ rfl
theorem dX9_join_19 : decode cX9_join 19 = .ok (.iload_n 0, 1) := DX9_join _ _ _ rfl
theorem dX9_join_20 : decode cX9_join 20 = .ok (.iload_n 3, 1) := DX9_join _ _ _ rfl
theorem dX9_join_21 : decode cX9_join 21 = .ok (.ishr, 1) := DX9_join _ _ _ rfl
theorem dX9_join_22 : decode cX9_join 22 = .ok (.ior, 1) := DX9_join _ _ _ rfl
theorem dX9_join_23 : decode cX9_join 23 = .ok (.bipush 15, 2) := DX9_join _ _ _ rfl
theorem dX9_join_25 : decode cX9_join 25 = .ok (.iand, 1) := DX9_join _ _ _ rfl
theorem dX9_join_26 : decode cX9_join 26 = .ok (.istore 4, 2) := DX9_join _ _ _ rfl
theorem dX9_join_28 : decode cX9_join 28 = .ok (.iload_n 0, 1) := DX9_join _ _ _ rfl
theorem dX9_join_29 : decode cX9_join 29 = .ok (.iload 4, 2) := DX9_join _ _ _ rfl
theorem dX9_join_31 : decode cX9_join 31 = .ok (.iload_n 2, 1) := DX9_join _ _ _ rfl
theorem dX9_join_32 : decode cX9_join 32 = .ok (.ishl, 1) := DX9_join _ _ _ rfl
theorem dX9_join_33 : decode cX9_join 33 = .ok (.ior, 1) := DX9_join _ _ _ rfl
theorem dX9_join_34 : decode cX9_join 34 = .ok (.iload 4, 2) := DX9_join _ _ _ rfl
theorem dX9_join_36 : decode cX9_join 36 = .ok (.iload_n 3, 1) := DX9_join _ _ _ rfl
theorem dX9_join_37 : decode cX9_join 37 = .ok (.ishl, 1) := DX9_join _ _ _ rfl
theorem dX9_join_38 : decode cX9_join 38 = .ok (.ior, 1) := DX9_join _ _ _ rfl
theorem dX9_join_39 : decode cX9_join 39 = .ok (.ireturn, 1) := DX9_join _ _ _ rfl
theorem dX9_improve_0 : decode cX9_improve 0 = .ok (.iload_n 1, 1) := DX9_improve _ _ _ rfl
theorem dX9_improve_1 : decode cX9_improve 1 = .ok (.invokestatic 32, 3) := DX9_improve _ _ _ rfl
theorem dX9_improve_4 : decode cX9_improve 4 = .ok (.istore_n 3, 1) := DX9_improve _ _ _ rfl
theorem dX9_improve_5 : decode cX9_improve 5 = .ok (.aload_n 0, 1) := DX9_improve _ _ _ rfl
theorem dX9_improve_6 : decode cX9_improve 6 = .ok (.getfield 15, 3) := DX9_improve _ _ _ rfl
theorem dX9_improve_9 : decode cX9_improve 9 = .ok (.iload_n 3, 1) := DX9_improve _ _ _ rfl
theorem dX9_improve_10 : decode cX9_improve 10 = .ok (.aload_n 0, 1) := DX9_improve _ _ _ rfl
theorem dX9_improve_11 : decode cX9_improve 11 = .ok (.getfield 15, 3) := DX9_improve _ _ _ rfl
theorem dX9_improve_14 : decode cX9_improve 14 = .ok (.iload_n 3, 1) := DX9_improve _ _ _ rfl
theorem dX9_improve_15 : decode cX9_improve 15 = .ok (.iaload, 1) := DX9_improve _ _ _ rfl
theorem dX9_improve_16 : decode cX9_improve 16 = .ok (.iload_n 2, 1) := DX9_improve _ _ _ rfl
theorem mm_X9_17 : (Cond.methodLink "NoonValley$Trade" 77 Lib.Math.min.name) ∈ BW := bw (tb4 231 rfl) (by decide +kernel)
theorem dX9_improve_17 : decode cX9_improve 17 = .ok (.invokestatic 77, 3) := DX9_improve _ _ _ rfl
theorem dX9_improve_20 : decode cX9_improve 20 = .ok (.iastore, 1) := DX9_improve _ _ _ rfl
theorem dX9_improve_21 : decode cX9_improve 21 = .ok (.return_, 1) := DX9_improve _ _ _ rfl
theorem dX9_goOn_0 : decode cX9_goOn 0 = .ok (.iconst 0, 1) := DX9_goOn _ _ _ rfl
theorem dX9_goOn_1 : decode cX9_goOn 1 = .ok (.istore_n 3, 1) := DX9_goOn _ _ _ rfl
theorem dX9_goOn_2 : decode cX9_goOn 2 = .ok (.iload_n 3, 1) := DX9_goOn _ _ _ rfl
theorem dX9_goOn_3 : decode cX9_goOn 3 = .ok (.aload_n 0, 1) := DX9_goOn _ _ _ rfl
theorem dX9_goOn_4 : decode cX9_goOn 4 = .ok (.getfield 21, 3) := DX9_goOn _ _ _ rfl
theorem dX9_goOn_7 : decode cX9_goOn 7 = .ok (.arraylength, 1) := DX9_goOn _ _ _ rfl
theorem dX9_goOn_8 : decode cX9_goOn 8 = .ok (.if_icmp .ge 72, 3) := DX9_goOn _ _ _ rfl
theorem dX9_goOn_80 : decode cX9_goOn 80 = .ok (.return_, 1) := DX9_goOn _ _ _ rfl
theorem dX9_goOn_11 : decode cX9_goOn 11 = .ok (.aload_n 0, 1) := DX9_goOn _ _ _ rfl
theorem dX9_goOn_12 : decode cX9_goOn 12 = .ok (.getfield 21, 3) := DX9_goOn _ _ _ rfl
theorem dX9_goOn_15 : decode cX9_goOn 15 = .ok (.iload_n 3, 1) := DX9_goOn _ _ _ rfl
theorem dX9_goOn_16 : decode cX9_goOn 16 = .ok (.baload, 1) := DX9_goOn _ _ _ rfl
theorem dX9_goOn_17 : decode cX9_goOn 17 = .ok (.ifCond .ne 6, 3) := DX9_goOn _ _ _ rfl
theorem dX9_goOn_23 : decode cX9_goOn 23 = .ok (.iload_n 1, 1) := DX9_goOn _ _ _ rfl
theorem dX9_goOn_24 : decode cX9_goOn 24 = .ok (.iload_n 3, 1) := DX9_goOn _ _ _ rfl
theorem dX9_goOn_25 : decode cX9_goOn 25 = .ok (.invokestatic 89, 3) := DX9_goOn _ _ _ rfl
theorem dX9_goOn_28 : decode cX9_goOn 28 = .ok (.istore 4, 2) := DX9_goOn _ _ _ rfl
theorem dX9_goOn_30 : decode cX9_goOn 30 = .ok (.aload_n 0, 1) := DX9_goOn _ _ _ rfl
theorem dX9_goOn_31 : decode cX9_goOn 31 = .ok (.iload 4, 2) := DX9_goOn _ _ _ rfl
theorem dX9_goOn_33 : decode cX9_goOn 33 = .ok (.iload_n 2, 1) := DX9_goOn _ _ _ rfl
theorem dX9_goOn_34 : decode cX9_goOn 34 = .ok (.iconst 1, 1) := DX9_goOn _ _ _ rfl
theorem dX9_goOn_35 : decode cX9_goOn 35 = .ok (.iadd, 1) := DX9_goOn _ _ _ rfl
theorem dX9_goOn_36 : decode cX9_goOn 36 = .ok (.invokevirtual 92, 3) := DX9_goOn _ _ _ rfl
theorem dX9_goOn_39 : decode cX9_goOn 39 = .ok (.aload_n 0, 1) := DX9_goOn _ _ _ rfl
theorem dX9_goOn_40 : decode cX9_goOn 40 = .ok (.getfield 21, 3) := DX9_goOn _ _ _ rfl
theorem dX9_goOn_43 : decode cX9_goOn 43 = .ok (.arraylength, 1) := DX9_goOn _ _ _ rfl
theorem dX9_goOn_44 : decode cX9_goOn 44 = .ok (.iconst 1, 1) := DX9_goOn _ _ _ rfl
theorem dX9_goOn_45 : decode cX9_goOn 45 = .ok (.isub, 1) := DX9_goOn _ _ _ rfl
theorem dX9_goOn_46 : decode cX9_goOn 46 = .ok (.iload_n 3, 1) := DX9_goOn _ _ _ rfl
theorem dX9_goOn_47 : decode cX9_goOn 47 = .ok (.isub, 1) := DX9_goOn _ _ _ rfl
theorem dX9_goOn_48 : decode cX9_goOn 48 = .ok (.istore 5, 2) := DX9_goOn _ _ _ rfl
theorem dX9_goOn_50 : decode cX9_goOn 50 = .ok (.aload_n 0, 1) := DX9_goOn _ _ _ rfl
theorem dX9_goOn_51 : decode cX9_goOn 51 = .ok (.getfield 21, 3) := DX9_goOn _ _ _ rfl
theorem dX9_goOn_54 : decode cX9_goOn 54 = .ok (.iload 5, 2) := DX9_goOn _ _ _ rfl
theorem dX9_goOn_56 : decode cX9_goOn 56 = .ok (.baload, 1) := DX9_goOn _ _ _ rfl
theorem dX9_goOn_57 : decode cX9_goOn 57 = .ok (.ifCond .eq 17, 3) := DX9_goOn _ _ _ rfl
theorem dX9_goOn_74 : decode cX9_goOn 74 = .ok (.iinc 3 1, 3) := DX9_goOn _ _ _ rfl
theorem dX9_goOn_77 : decode cX9_goOn 77 = .ok (.goto (-75), 3) := DX9_goOn _ _ _ rfl
theorem dX9_goOn_60 : decode cX9_goOn 60 = .ok (.aload_n 0, 1) := DX9_goOn _ _ _ rfl
theorem dX9_goOn_61 : decode cX9_goOn 61 = .ok (.iload 4, 2) := DX9_goOn _ _ _ rfl
theorem dX9_goOn_63 : decode cX9_goOn 63 = .ok (.iload 5, 2) := DX9_goOn _ _ _ rfl
theorem dX9_goOn_65 : decode cX9_goOn 65 = .ok (.invokestatic 89, 3) := DX9_goOn _ _ _ rfl
theorem dX9_goOn_68 : decode cX9_goOn 68 = .ok (.iload_n 2, 1) := DX9_goOn _ _ _ rfl
theorem dX9_goOn_69 : decode cX9_goOn 69 = .ok (.iconst 2, 1) := DX9_goOn _ _ _ rfl
theorem dX9_goOn_70 : decode cX9_goOn 70 = .ok (.iadd, 1) := DX9_goOn _ _ _ rfl
theorem dX9_goOn_71 : decode cX9_goOn 71 = .ok (.invokevirtual 92, 3) := DX9_goOn _ _ _ rfl
theorem dX9_goOn_20 : decode cX9_goOn 20 = .ok (.goto 54, 3) := DX9_goOn _ _ _ rfl
theorem dX9_lookAtLines_0 : decode cX9_lookAtLines 0 = .ok (.iconst 0, 1) := DX9_lookAtLines _ _ _ rfl
theorem dX9_lookAtLines_1 : decode cX9_lookAtLines 1 = .ok (.istore_n 3, 1) := DX9_lookAtLines _ _ _ rfl
theorem dX9_lookAtLines_2 : decode cX9_lookAtLines 2 = .ok (.iload_n 3, 1) := DX9_lookAtLines _ _ _ rfl
theorem dX9_lookAtLines_3 : decode cX9_lookAtLines 3 = .ok (.aload_n 0, 1) := DX9_lookAtLines _ _ _ rfl
theorem dX9_lookAtLines_4 : decode cX9_lookAtLines 4 = .ok (.getfield 21, 3) := DX9_lookAtLines _ _ _ rfl
theorem dX9_lookAtLines_7 : decode cX9_lookAtLines 7 = .ok (.arraylength, 1) := DX9_lookAtLines _ _ _ rfl
theorem dX9_lookAtLines_8 : decode cX9_lookAtLines 8 = .ok (.if_icmp .ge 16, 3) := DX9_lookAtLines _ _ _ rfl
theorem dX9_lookAtLines_24 : decode cX9_lookAtLines 24 = .ok (.iconst 0, 1) := DX9_lookAtLines _ _ _ rfl
theorem dX9_lookAtLines_25 : decode cX9_lookAtLines 25 = .ok (.istore_n 3, 1) := DX9_lookAtLines _ _ _ rfl
theorem dX9_lookAtLines_26 : decode cX9_lookAtLines 26 = .ok (.iload_n 3, 1) := DX9_lookAtLines _ _ _ rfl
theorem dX9_lookAtLines_27 : decode cX9_lookAtLines 27 = .ok (.aload_n 1, 1) := DX9_lookAtLines _ _ _ rfl
theorem dX9_lookAtLines_28 : decode cX9_lookAtLines 28 = .ok (.getfield 57, 3) := DX9_lookAtLines _ _ _ rfl
theorem dX9_lookAtLines_31 : decode cX9_lookAtLines 31 = .ok (.if_icmp .ge 108, 3) := DX9_lookAtLines _ _ _ rfl
theorem dX9_lookAtLines_139 : decode cX9_lookAtLines 139 = .ok (.return_, 1) := DX9_lookAtLines _ _ _ rfl
theorem dX9_lookAtLines_34 : decode cX9_lookAtLines 34 = .ok (.aload_n 1, 1) := DX9_lookAtLines _ _ _ rfl
theorem dX9_lookAtLines_35 : decode cX9_lookAtLines 35 = .ok (.iload_n 3, 1) := DX9_lookAtLines _ _ _ rfl
theorem dX9_lookAtLines_36 : decode cX9_lookAtLines 36 = .ok (.invokevirtual 63, 3) := DX9_lookAtLines _ _ _ rfl
theorem dX9_lookAtLines_39 : decode cX9_lookAtLines 39 = .ok (.ifCond .ne 94, 3) := DX9_lookAtLines _ _ _ rfl
theorem dX9_lookAtLines_133 : decode cX9_lookAtLines 133 = .ok (.iinc 3 1, 3) := DX9_lookAtLines _ _ _ rfl
theorem dX9_lookAtLines_136 : decode cX9_lookAtLines 136 = .ok (.goto (-110), 3) := DX9_lookAtLines _ _ _ rfl
theorem dX9_lookAtLines_42 : decode cX9_lookAtLines 42 = .ok (.aload_n 1, 1) := DX9_lookAtLines _ _ _ rfl
theorem dX9_lookAtLines_43 : decode cX9_lookAtLines 43 = .ok (.iload_n 3, 1) := DX9_lookAtLines _ _ _ rfl
theorem dX9_lookAtLines_44 : decode cX9_lookAtLines 44 = .ok (.iload_n 2, 1) := DX9_lookAtLines _ _ _ rfl
theorem dX9_lookAtLines_45 : decode cX9_lookAtLines 45 = .ok (.invokevirtual 67, 3) := DX9_lookAtLines _ _ _ rfl
theorem dX9_lookAtLines_48 : decode cX9_lookAtLines 48 = .ok (.ifCond .ne 6, 3) := DX9_lookAtLines _ _ _ rfl
theorem dX9_lookAtLines_54 : decode cX9_lookAtLines 54 = .ok (.aload_n 1, 1) := DX9_lookAtLines _ _ _ rfl
theorem dX9_lookAtLines_55 : decode cX9_lookAtLines 55 = .ok (.iload_n 3, 1) := DX9_lookAtLines _ _ _ rfl
theorem dX9_lookAtLines_56 : decode cX9_lookAtLines 56 = .ok (.invokevirtual 71, 3) := DX9_lookAtLines _ _ _ rfl
theorem dX9_lookAtLines_59 : decode cX9_lookAtLines 59 = .ok (.aload_n 1, 1) := DX9_lookAtLines _ _ _ rfl
theorem dX9_lookAtLines_60 : decode cX9_lookAtLines 60 = .ok (.iload_n 3, 1) := DX9_lookAtLines _ _ _ rfl
theorem dX9_lookAtLines_61 : decode cX9_lookAtLines 61 = .ok (.invokevirtual 74, 3) := DX9_lookAtLines _ _ _ rfl
theorem mm_X9_64 : (Cond.methodLink "NoonValley$Trade" 77 Lib.Math.min.name) ∈ BW := bw (tb4 231 rfl) (by decide +kernel)
theorem dX9_lookAtLines_64 : decode cX9_lookAtLines 64 = .ok (.invokestatic 77, 3) := DX9_lookAtLines _ _ _ rfl
theorem dX9_lookAtLines_67 : decode cX9_lookAtLines 67 = .ok (.istore 4, 2) := DX9_lookAtLines _ _ _ rfl
theorem dX9_lookAtLines_69 : decode cX9_lookAtLines 69 = .ok (.aload_n 1, 1) := DX9_lookAtLines _ _ _ rfl
theorem dX9_lookAtLines_70 : decode cX9_lookAtLines 70 = .ok (.iload_n 3, 1) := DX9_lookAtLines _ _ _ rfl
theorem dX9_lookAtLines_71 : decode cX9_lookAtLines 71 = .ok (.invokevirtual 71, 3) := DX9_lookAtLines _ _ _ rfl
theorem dX9_lookAtLines_74 : decode cX9_lookAtLines 74 = .ok (.aload_n 1, 1) := DX9_lookAtLines _ _ _ rfl
theorem dX9_lookAtLines_75 : decode cX9_lookAtLines 75 = .ok (.iload_n 3, 1) := DX9_lookAtLines _ _ _ rfl
theorem dX9_lookAtLines_76 : decode cX9_lookAtLines 76 = .ok (.invokevirtual 74, 3) := DX9_lookAtLines _ _ _ rfl
theorem mm_X9_79 : (Cond.methodLink "NoonValley$Trade" 83 Lib.Math.max.name) ∈ BW := bw (tb4 232 rfl) (by decide +kernel)
theorem dX9_lookAtLines_79 : decode cX9_lookAtLines 79 = .ok (.invokestatic 83, 3) := DX9_lookAtLines _ _ _ rfl
theorem dX9_lookAtLines_82 : decode cX9_lookAtLines 82 = .ok (.istore 5, 2) := DX9_lookAtLines _ _ _ rfl
theorem dX9_lookAtLines_84 : decode cX9_lookAtLines 84 = .ok (.iconst 0, 1) := DX9_lookAtLines _ _ _ rfl
theorem dX9_lookAtLines_85 : decode cX9_lookAtLines 85 = .ok (.istore 6, 2) := DX9_lookAtLines _ _ _ rfl
theorem dX9_lookAtLines_87 : decode cX9_lookAtLines 87 = .ok (.iload 6, 2) := DX9_lookAtLines _ _ _ rfl
theorem dX9_lookAtLines_89 : decode cX9_lookAtLines 89 = .ok (.aload_n 0, 1) := DX9_lookAtLines _ _ _ rfl
theorem dX9_lookAtLines_90 : decode cX9_lookAtLines 90 = .ok (.getfield 21, 3) := DX9_lookAtLines _ _ _ rfl
theorem dX9_lookAtLines_93 : decode cX9_lookAtLines 93 = .ok (.arraylength, 1) := DX9_lookAtLines _ _ _ rfl
theorem dX9_lookAtLines_94 : decode cX9_lookAtLines 94 = .ok (.if_icmp .ge 39, 3) := DX9_lookAtLines _ _ _ rfl
theorem dX9_lookAtLines_97 : decode cX9_lookAtLines 97 = .ok (.getstatic 18, 3) := DX9_lookAtLines _ _ _ rfl
theorem dX9_lookAtLines_100 : decode cX9_lookAtLines 100 = .ok (.iload 6, 2) := DX9_lookAtLines _ _ _ rfl
theorem dX9_lookAtLines_102 : decode cX9_lookAtLines 102 = .ok (.iaload, 1) := DX9_lookAtLines _ _ _ rfl
theorem dX9_lookAtLines_103 : decode cX9_lookAtLines 103 = .ok (.iload 4, 2) := DX9_lookAtLines _ _ _ rfl
theorem dX9_lookAtLines_105 : decode cX9_lookAtLines 105 = .ok (.if_icmp .ne 22, 3) := DX9_lookAtLines _ _ _ rfl
theorem dX9_lookAtLines_127 : decode cX9_lookAtLines 127 = .ok (.iinc 6 1, 3) := DX9_lookAtLines _ _ _ rfl
theorem dX9_lookAtLines_130 : decode cX9_lookAtLines 130 = .ok (.goto (-43), 3) := DX9_lookAtLines _ _ _ rfl
theorem dX9_lookAtLines_108 : decode cX9_lookAtLines 108 = .ok (.getstatic 86, 3) := DX9_lookAtLines _ _ _ rfl
theorem dX9_lookAtLines_111 : decode cX9_lookAtLines 111 = .ok (.iload 6, 2) := DX9_lookAtLines _ _ _ rfl
theorem dX9_lookAtLines_113 : decode cX9_lookAtLines 113 = .ok (.iaload, 1) := DX9_lookAtLines _ _ _ rfl
theorem dX9_lookAtLines_114 : decode cX9_lookAtLines 114 = .ok (.iload 5, 2) := DX9_lookAtLines _ _ _ rfl
theorem dX9_lookAtLines_116 : decode cX9_lookAtLines 116 = .ok (.if_icmp .ne 11, 3) := DX9_lookAtLines _ _ _ rfl
theorem dX9_lookAtLines_119 : decode cX9_lookAtLines 119 = .ok (.aload_n 0, 1) := DX9_lookAtLines _ _ _ rfl
theorem dX9_lookAtLines_120 : decode cX9_lookAtLines 120 = .ok (.getfield 21, 3) := DX9_lookAtLines _ _ _ rfl
theorem dX9_lookAtLines_123 : decode cX9_lookAtLines 123 = .ok (.iload 6, 2) := DX9_lookAtLines _ _ _ rfl
theorem dX9_lookAtLines_125 : decode cX9_lookAtLines 125 = .ok (.iconst 1, 1) := DX9_lookAtLines _ _ _ rfl
theorem dX9_lookAtLines_126 : decode cX9_lookAtLines 126 = .ok (.bastore, 1) := DX9_lookAtLines _ _ _ rfl
theorem dX9_lookAtLines_51 : decode cX9_lookAtLines 51 = .ok (.goto 82, 3) := DX9_lookAtLines _ _ _ rfl
theorem dX9_lookAtLines_11 : decode cX9_lookAtLines 11 = .ok (.aload_n 0, 1) := DX9_lookAtLines _ _ _ rfl
theorem dX9_lookAtLines_12 : decode cX9_lookAtLines 12 = .ok (.getfield 21, 3) := DX9_lookAtLines _ _ _ rfl
theorem dX9_lookAtLines_15 : decode cX9_lookAtLines 15 = .ok (.iload_n 3, 1) := DX9_lookAtLines _ _ _ rfl
theorem dX9_lookAtLines_16 : decode cX9_lookAtLines 16 = .ok (.iconst 0, 1) := DX9_lookAtLines _ _ _ rfl
theorem dX9_lookAtLines_17 : decode cX9_lookAtLines 17 = .ok (.bastore, 1) := DX9_lookAtLines _ _ _ rfl
theorem dX9_lookAtLines_18 : decode cX9_lookAtLines 18 = .ok (.iinc 3 1, 3) := DX9_lookAtLines _ _ _ rfl
theorem dX9_lookAtLines_21 : decode cX9_lookAtLines 21 = .ok (.goto (-19), 3) := DX9_lookAtLines _ _ _ rfl
theorem dX9_goal_0 : decode cX9_goal 0 = .ok (.ldc 31, 2) := DX9_goal _ _ _ rfl
theorem dX9_goal_2 : decode cX9_goal 2 = .ok (.istore_n 1, 1) := DX9_goal _ _ _ rfl
theorem dX9_goal_3 : decode cX9_goal 3 = .ok (.iconst 0, 1) := DX9_goal _ _ _ rfl
theorem dX9_goal_4 : decode cX9_goal 4 = .ok (.istore_n 2, 1) := DX9_goal _ _ _ rfl
theorem dX9_goal_5 : decode cX9_goal 5 = .ok (.iload_n 2, 1) := DX9_goal _ _ _ rfl
theorem dX9_goal_6 : decode cX9_goal 6 = .ok (.aload_n 0, 1) := DX9_goal _ _ _ rfl
theorem dX9_goal_7 : decode cX9_goal 7 = .ok (.getfield 95, 3) := DX9_goal _ _ _ rfl
theorem dX9_goal_10 : decode cX9_goal 10 = .ok (.if_icmp .ge 25, 3) := DX9_goal _ _ _ rfl
theorem dX9_goal_35 : decode cX9_goal 35 = .ok (.iload_n 1, 1) := DX9_goal _ _ _ rfl
theorem dX9_goal_36 : decode cX9_goal 36 = .ok (.ireturn, 1) := DX9_goal _ _ _ rfl
theorem dX9_goal_13 : decode cX9_goal 13 = .ok (.iload_n 2, 1) := DX9_goal _ _ _ rfl
theorem dX9_goal_14 : decode cX9_goal 14 = .ok (.iconst 4, 1) := DX9_goal _ _ _ rfl
theorem dX9_goal_15 : decode cX9_goal 15 = .ok (.if_icmp .ge 20, 3) := DX9_goal _ _ _ rfl
theorem dX9_goal_18 : decode cX9_goal 18 = .ok (.iload_n 1, 1) := DX9_goal _ _ _ rfl
theorem dX9_goal_19 : decode cX9_goal 19 = .ok (.aload_n 0, 1) := DX9_goal _ _ _ rfl
theorem dX9_goal_20 : decode cX9_goal 20 = .ok (.invokevirtual 98, 3) := DX9_goal _ _ _ rfl
theorem dX9_goal_23 : decode cX9_goal 23 = .ok (.iconst 4, 1) := DX9_goal _ _ _ rfl
theorem dX9_goal_24 : decode cX9_goal 24 = .ok (.iload_n 2, 1) := DX9_goal _ _ _ rfl
theorem dX9_goal_25 : decode cX9_goal 25 = .ok (.imul, 1) := DX9_goal _ _ _ rfl
theorem dX9_goal_26 : decode cX9_goal 26 = .ok (.ishl, 1) := DX9_goal _ _ _ rfl
theorem dX9_goal_27 : decode cX9_goal 27 = .ok (.ior, 1) := DX9_goal _ _ _ rfl
theorem dX9_goal_28 : decode cX9_goal 28 = .ok (.istore_n 1, 1) := DX9_goal _ _ _ rfl
theorem dX9_goal_29 : decode cX9_goal 29 = .ok (.iinc 2 1, 3) := DX9_goal _ _ _ rfl
theorem dX9_goal_32 : decode cX9_goal 32 = .ok (.goto (-27), 3) := DX9_goal _ _ _ rfl
theorem dX9_fewestCalls_0 : decode cX9_fewestCalls 0 = .ok (.aload_n 0, 1) := DX9_fewestCalls _ _ _ rfl
theorem dX9_fewestCalls_1 : decode cX9_fewestCalls 1 = .ok (.getfield 11, 3) := DX9_fewestCalls _ _ _ rfl
theorem dX9_fewestCalls_4 : decode cX9_fewestCalls 4 = .ok (.sipush 1000, 3) := DX9_fewestCalls _ _ _ rfl
theorem dX9_fewestCalls_7 : decode cX9_fewestCalls 7 = .ok (.invokestatic 25, 3) := DX9_fewestCalls _ _ _ rfl
theorem dX9_fewestCalls_10 : decode cX9_fewestCalls 10 = .ok (.aload_n 0, 1) := DX9_fewestCalls _ _ _ rfl
theorem dX9_fewestCalls_11 : decode cX9_fewestCalls 11 = .ok (.getfield 11, 3) := DX9_fewestCalls _ _ _ rfl
theorem dX9_fewestCalls_14 : decode cX9_fewestCalls 14 = .ok (.ldc 31, 2) := DX9_fewestCalls _ _ _ rfl
theorem dX9_fewestCalls_16 : decode cX9_fewestCalls 16 = .ok (.invokestatic 32, 3) := DX9_fewestCalls _ _ _ rfl
theorem dX9_fewestCalls_19 : decode cX9_fewestCalls 19 = .ok (.iconst 0, 1) := DX9_fewestCalls _ _ _ rfl
theorem dX9_fewestCalls_20 : decode cX9_fewestCalls 20 = .ok (.iastore, 1) := DX9_fewestCalls _ _ _ rfl
theorem dX9_fewestCalls_21 : decode cX9_fewestCalls 21 = .ok (.iconst 1, 1) := DX9_fewestCalls _ _ _ rfl
theorem dX9_fewestCalls_22 : decode cX9_fewestCalls 22 = .ok (.istore_n 3, 1) := DX9_fewestCalls _ _ _ rfl
theorem dX9_fewestCalls_23 : decode cX9_fewestCalls 23 = .ok (.iload_n 3, 1) := DX9_fewestCalls _ _ _ rfl
theorem dX9_fewestCalls_24 : decode cX9_fewestCalls 24 = .ok (.iload_n 2, 1) := DX9_fewestCalls _ _ _ rfl
theorem dX9_fewestCalls_25 : decode cX9_fewestCalls 25 = .ok (.if_icmp .gt 97, 3) := DX9_fewestCalls _ _ _ rfl
theorem dX9_fewestCalls_122 : decode cX9_fewestCalls 122 = .ok (.aload_n 0, 1) := DX9_fewestCalls _ _ _ rfl
theorem dX9_fewestCalls_123 : decode cX9_fewestCalls 123 = .ok (.getfield 11, 3) := DX9_fewestCalls _ _ _ rfl
theorem dX9_fewestCalls_126 : decode cX9_fewestCalls 126 = .ok (.aload_n 1, 1) := DX9_fewestCalls _ _ _ rfl
theorem dX9_fewestCalls_127 : decode cX9_fewestCalls 127 = .ok (.invokestatic 53, 3) := DX9_fewestCalls _ _ _ rfl
theorem dX9_fewestCalls_130 : decode cX9_fewestCalls 130 = .ok (.invokestatic 32, 3) := DX9_fewestCalls _ _ _ rfl
theorem dX9_fewestCalls_133 : decode cX9_fewestCalls 133 = .ok (.iaload, 1) := DX9_fewestCalls _ _ _ rfl
theorem dX9_fewestCalls_134 : decode cX9_fewestCalls 134 = .ok (.istore_n 3, 1) := DX9_fewestCalls _ _ _ rfl
theorem dX9_fewestCalls_135 : decode cX9_fewestCalls 135 = .ok (.iload_n 3, 1) := DX9_fewestCalls _ _ _ rfl
theorem dX9_fewestCalls_136 : decode cX9_fewestCalls 136 = .ok (.sipush 1000, 3) := DX9_fewestCalls _ _ _ rfl
theorem dX9_fewestCalls_139 : decode cX9_fewestCalls 139 = .ok (.if_icmp .ge 7, 3) := DX9_fewestCalls _ _ _ rfl
theorem dX9_fewestCalls_146 : decode cX9_fewestCalls 146 = .ok (.iconst (-1), 1) := DX9_fewestCalls _ _ _ rfl
theorem dX9_fewestCalls_147 : decode cX9_fewestCalls 147 = .ok (.ireturn, 1) := DX9_fewestCalls _ _ _ rfl
theorem dX9_fewestCalls_142 : decode cX9_fewestCalls 142 = .ok (.iload_n 3, 1) := DX9_fewestCalls _ _ _ rfl
theorem dX9_fewestCalls_143 : decode cX9_fewestCalls 143 = .ok (.goto 4, 3) := DX9_fewestCalls _ _ _ rfl
theorem dX9_fewestCalls_28 : decode cX9_fewestCalls 28 = .ok (.aload_n 0, 1) := DX9_fewestCalls _ _ _ rfl
theorem dX9_fewestCalls_29 : decode cX9_fewestCalls 29 = .ok (.aload_n 1, 1) := DX9_fewestCalls _ _ _ rfl
theorem dX9_fewestCalls_30 : decode cX9_fewestCalls 30 = .ok (.iload_n 3, 1) := DX9_fewestCalls _ _ _ rfl
theorem dX9_fewestCalls_31 : decode cX9_fewestCalls 31 = .ok (.invokevirtual 36, 3) := DX9_fewestCalls _ _ _ rfl
theorem dX9_fewestCalls_34 : decode cX9_fewestCalls 34 = .ok (.aload_n 0, 1) := DX9_fewestCalls _ _ _ rfl
theorem dX9_fewestCalls_35 : decode cX9_fewestCalls 35 = .ok (.getfield 11, 3) := DX9_fewestCalls _ _ _ rfl
theorem dX9_fewestCalls_38 : decode cX9_fewestCalls 38 = .ok (.iconst 0, 1) := DX9_fewestCalls _ _ _ rfl
theorem dX9_fewestCalls_39 : decode cX9_fewestCalls 39 = .ok (.aload_n 0, 1) := DX9_fewestCalls _ _ _ rfl
theorem dX9_fewestCalls_40 : decode cX9_fewestCalls 40 = .ok (.getfield 15, 3) := DX9_fewestCalls _ _ _ rfl
theorem dX9_fewestCalls_43 : decode cX9_fewestCalls 43 = .ok (.iconst 0, 1) := DX9_fewestCalls _ _ _ rfl
theorem dX9_fewestCalls_44 : decode cX9_fewestCalls 44 = .ok (.sipush 4096, 3) := DX9_fewestCalls _ _ _ rfl
theorem dX9_fewestCalls_47 : decode cX9_fewestCalls 47 = .ok (.invokestatic 40, 3) := DX9_fewestCalls _ _ _ rfl
theorem dX9_fewestCalls_50 : decode cX9_fewestCalls 50 = .ok (.iconst 0, 1) := DX9_fewestCalls _ _ _ rfl
theorem dX9_fewestCalls_51 : decode cX9_fewestCalls 51 = .ok (.istore 4, 2) := DX9_fewestCalls _ _ _ rfl
theorem dX9_fewestCalls_53 : decode cX9_fewestCalls 53 = .ok (.iload 4, 2) := DX9_fewestCalls _ _ _ rfl
theorem dX9_fewestCalls_55 : decode cX9_fewestCalls 55 = .ok (.sipush 4096, 3) := DX9_fewestCalls _ _ _ rfl
theorem dX9_fewestCalls_58 : decode cX9_fewestCalls 58 = .ok (.if_icmp .ge 38, 3) := DX9_fewestCalls _ _ _ rfl
theorem dX9_fewestCalls_96 : decode cX9_fewestCalls 96 = .ok (.aload_n 0, 1) := DX9_fewestCalls _ _ _ rfl
theorem dX9_fewestCalls_97 : decode cX9_fewestCalls 97 = .ok (.getfield 11, 3) := DX9_fewestCalls _ _ _ rfl
theorem dX9_fewestCalls_100 : decode cX9_fewestCalls 100 = .ok (.astore 4, 2) := DX9_fewestCalls _ _ _ rfl
theorem dX9_fewestCalls_102 : decode cX9_fewestCalls 102 = .ok (.aload_n 0, 1) := DX9_fewestCalls _ _ _ rfl
theorem dX9_fewestCalls_103 : decode cX9_fewestCalls 103 = .ok (.aload_n 0, 1) := DX9_fewestCalls _ _ _ rfl
theorem dX9_fewestCalls_104 : decode cX9_fewestCalls 104 = .ok (.getfield 15, 3) := DX9_fewestCalls _ _ _ rfl
theorem dX9_fewestCalls_107 : decode cX9_fewestCalls 107 = .ok (.putfield 11, 3) := DX9_fewestCalls _ _ _ rfl
theorem dX9_fewestCalls_110 : decode cX9_fewestCalls 110 = .ok (.aload_n 0, 1) := DX9_fewestCalls _ _ _ rfl
theorem dX9_fewestCalls_111 : decode cX9_fewestCalls 111 = .ok (.aload 4, 2) := DX9_fewestCalls _ _ _ rfl
theorem dX9_fewestCalls_113 : decode cX9_fewestCalls 113 = .ok (.putfield 15, 3) := DX9_fewestCalls _ _ _ rfl
theorem dX9_fewestCalls_116 : decode cX9_fewestCalls 116 = .ok (.iinc 3 1, 3) := DX9_fewestCalls _ _ _ rfl
theorem dX9_fewestCalls_119 : decode cX9_fewestCalls 119 = .ok (.goto (-96), 3) := DX9_fewestCalls _ _ _ rfl
theorem dX9_fewestCalls_61 : decode cX9_fewestCalls 61 = .ok (.aload_n 0, 1) := DX9_fewestCalls _ _ _ rfl
theorem dX9_fewestCalls_62 : decode cX9_fewestCalls 62 = .ok (.getfield 11, 3) := DX9_fewestCalls _ _ _ rfl
theorem dX9_fewestCalls_65 : decode cX9_fewestCalls 65 = .ok (.iload 4, 2) := DX9_fewestCalls _ _ _ rfl
theorem dX9_fewestCalls_67 : decode cX9_fewestCalls 67 = .ok (.iaload, 1) := DX9_fewestCalls _ _ _ rfl
theorem dX9_fewestCalls_68 : decode cX9_fewestCalls 68 = .ok (.sipush 1000, 3) := DX9_fewestCalls _ _ _ rfl
theorem dX9_fewestCalls_71 : decode cX9_fewestCalls 71 = .ok (.if_icmp .ge 19, 3) := DX9_fewestCalls _ _ _ rfl
theorem dX9_fewestCalls_90 : decode cX9_fewestCalls 90 = .ok (.iinc 4 1, 3) := DX9_fewestCalls _ _ _ rfl
theorem dX9_fewestCalls_93 : decode cX9_fewestCalls 93 = .ok (.goto (-40), 3) := DX9_fewestCalls _ _ _ rfl
theorem dX9_fewestCalls_74 : decode cX9_fewestCalls 74 = .ok (.aload_n 0, 1) := DX9_fewestCalls _ _ _ rfl
theorem dX9_fewestCalls_75 : decode cX9_fewestCalls 75 = .ok (.iload 4, 2) := DX9_fewestCalls _ _ _ rfl
theorem dX9_fewestCalls_77 : decode cX9_fewestCalls 77 = .ok (.invokestatic 46, 3) := DX9_fewestCalls _ _ _ rfl
theorem dX9_fewestCalls_80 : decode cX9_fewestCalls 80 = .ok (.aload_n 0, 1) := DX9_fewestCalls _ _ _ rfl
theorem dX9_fewestCalls_81 : decode cX9_fewestCalls 81 = .ok (.getfield 11, 3) := DX9_fewestCalls _ _ _ rfl
theorem dX9_fewestCalls_84 : decode cX9_fewestCalls 84 = .ok (.iload 4, 2) := DX9_fewestCalls _ _ _ rfl
theorem dX9_fewestCalls_86 : decode cX9_fewestCalls 86 = .ok (.iaload, 1) := DX9_fewestCalls _ _ _ rfl
theorem dX9_fewestCalls_87 : decode cX9_fewestCalls 87 = .ok (.invokevirtual 49, 3) := DX9_fewestCalls _ _ _ rfl
/-- the couples, as the class has them -/
def cAT (c : Nat) : Nat := if c = 3 then 1 else if c = 4 then 1 else if c = 5 then 2 else 0
def cBT (c : Nat) : Nat := if c = 0 then 1 else if c = 1 then 2 else if c = 2 then 3 else if c = 3 then 2 else 3
theorem fCA_at : ∀ c : Nat, c < 6 → fCA (nI c).toNatClampNeg = .int (nI (cAT c))
  | 0, _ => rfl
  | 1, _ => rfl
  | 2, _ => rfl
  | 3, _ => rfl
  | 4, _ => rfl
  | 5, _ => rfl
  | n + 6, h => absurd h (by omega)
theorem fCB_at : ∀ c : Nat, c < 6 → fCB (nI c).toNatClampNeg = .int (nI (cBT c))
  | 0, _ => rfl
  | 1, _ => rfl
  | 2, _ => rfl
  | 3, _ => rfl
  | 4, _ => rfl
  | 5, _ => rfl
  | n + 6, h => absurd h (by omega)
theorem cAT_lt (c : Nat) : cAT c < 4 := by unfold cAT; (repeat' split) <;> decide
theorem cBT_lt (c : Nat) : cBT c < 4 := by unfold cBT; (repeat' split) <;> decide
/-! numbers of so many bits -/
def sB (k : Nat) (x : Int32) : Prop := ∀ i : Nat, k ≤ i → i < 32 → bt x i = false
theorem sB_num {k : Nat} (hk : k < 31) {x : Int32} (h : sB k x) : x = nI (tN x) ∧ tN x < 2 ^ k := by
  have e1 : x = nI x.toBitVec.toNat := Int32.toBitVec_inj.1 (by
    show x.toBitVec = BitVec.ofNat 32 x.toBitVec.toNat
    exact BitVec.eq_of_toNat_eq (by rw [BitVec.toNat_ofNat, Nat.mod_eq_of_lt x.toBitVec.isLt]))
  have hl : x.toBitVec.toNat < 2 ^ k := Nat.lt_pow_two_of_testBit _ fun i hi => by
    by_cases q : i < 32
    · exact h i hi q
    · exact Nat.testBit_lt_two_pow (Nat.lt_of_lt_of_le x.toBitVec.isLt (Nat.pow_le_pow_right (by decide) (by omega)))
  have h31 : (2 : Nat) ^ k < 2 ^ 31 := Nat.pow_lt_pow_right (by decide) hk
  obtain ⟨q1, q2⟩ := tN_of (k := x.toBitVec.toNat) (by omega) e1
  exact ⟨q1, by rw [q2]; exact hl⟩
theorem sB_or {k : Nat} {x y : Int32} (h : sB k x) (h2 : sB k y) : sB k (x ||| y) := fun i a b => by rw [b_or, h i a b, h2 i a b]; rfl
theorem sB_15 {k : Nat} (hk : 4 ≤ k) {x : Int32} : sB k (x &&& 15) := fun i a b => by
  rw [b_and, (by decide +kernel : ∀ i, i < 32 → 4 ≤ i → bt (15 : Int32) i = false) i b (by omega), Bool.and_false]
theorem sB_15s {k s : Nat} (hs : s < 28) (hk : s + 4 ≤ k) {x : Int32} : sB k ((x &&& 15) <<< (nI s &&& 31)) := fun i a b => by
  rw [b_shl s (by omega) _ b, sB_15 (k := 4) (Nat.le_refl _) (i - s) (by omega) (by omega), Bool.and_false]
/-- a row of numbers copied -/
theorem cpy9 : CPY RX9 40 := ⟨m_957, m_959, m_958, m_21⟩
section
variable {p : Program} {l : Launch} {e : Env} {R : Room} {s : State} {m : MethodId} {args : Array Value} {below : List Frame} {meth : Method} {c : Code} {H : Heap} {locs : List Loc} {cells slots : Nat} {Q : State → Prop}
variable {cc : ByteArray} {pc nL : Nat} {ls : Array Slot} {rest : List Value} {own : String} {g : GG} {A : Nat → Prop} {ws ws' : va_W} {a : Nat}
theorem r_cpyi (X : CTX p l m meth c cc nL s args own g A) (hW : WD g A s H locs ws) (hls : ls.size = nL) {idx : Nat} (hC : CPY own idx) (q0 q1 : Nat) {a0 n0 n1 : Nat} {f h : Nat → Int32} (ha0 : ws[q0]? = some (a0, .inl (g.2.1 1, n0, .inl f))) (ha1 : ws[q1]? = some (a, .inl (g.2.1 1, n1, .inl h))) {n : Nat} (hn : n < 2 ^ 31) (h4 : n ≤ n0) (h5 : n ≤ n1) (hws : ws.set q1 (a, .inl (g.2.1 1, n1, .inl (va_cpy f h 0 0 n))) = ws') (hR : 1 ≤ R.frames) (hR2 : (rest.map fun v => v.category).sum + 18 ≤ R.locals) (hdg : decode cc pc = .ok (.invokestatic idx, 3))
    (kk : ∀ (H : Heap) (locs : List Loc), WD g A s H locs ws' → W p l e R s m args below meth c H locs cells slots Q (F0 m (pc + 3) ls rest)) : W p l e R s m args below meth c H locs cells slots Q (F0 m pc ls (.int (nI n) :: .int 0 :: .ref a :: .int 0 :: .ref a0 :: rest)) := by
  have e0 : (0 : Int32).toNatClampNeg = 0 := by decide
  have en : (nI n).toNatClampNeg = n := tN_nI hn
  have hnf : nativeFrameWords "java/lang/System" "arraycopy" 5 = 7 := by decide +kernel
  refine va_copyi X.1 X.2.1 (X.2.2.1.trans hls.symm) X.2.2.2.1 (X.2.2.2.2.1 _ hC.1) (X.2.2.2.2.1 _ hC.2.1) (X.2.2.2.2.1 _ hC.2.2.1) (X.2.2.2.2.1 _ hC.2.2.2) X.2.2.2.2.2.1.1 hW.1 hW.2.1 hW.2.2 q0 q1 1 1 ha0 ha1 rfl rfl rfl (sp := 0) (dp := 0) (n := nI n) (by decide) (by decide) (nI_nn hn) (by rw [e0, en]; omega) (by rw [e0, en]; omega) (fun i _ => rfl) hR (by rw [hnf]; omega) hdg (fun H1 locs1 k1 k2 k3 => ?_)
  rw [e0, en] at k1 k2
  rw [hws] at k1 k2
  exact kk H1 locs1 ⟨k1, k2, k3⟩
end
def F_X9_placeOf (x : Int32) : Int32 := (((x >>> ((1 : Int32) &&& 31)) &&& (15 : Int32)) ||| (((x >>> ((6 : Int32) &&& 31)) &&& (15 : Int32)) <<< ((4 : Int32) &&& 31))) ||| (((x >>> ((11 : Int32) &&& 31)) &&& (15 : Int32)) <<< ((8 : Int32) &&& 31))
set_option maxHeartbeats 4000000 in
set_option maxRecDepth 100000 in
theorem K_X9_placeOf (l : Launch) (g : GG) (x : Int32)  : MetI l g yX9_placeOf cX9_placeOf 1 (some .int) 0 0 0 [.int x] [] (fun r u => r = (F_X9_placeOf x) ∧ u = []) := by
  refine MetI.of (own := RX9) rfl (by decide) (Nat.le_of_ble_eq_true rfl) ?_
  intro p e s m below meth c A ls args Q hQ X hr hin hW hl
  have hx := X.1
  have hb := X.2.1
  have hl : lv_has ls 1 [(0, .int x)] := hl
  refine lv_iload_n (pc := 0) hx hb dX9_placeOf_0 rfl (lv_at hl 0 rfl) ?_
  refine lv_iconst (v := 1) (pc := 1) hx hb dX9_placeOf_1 (by decide) ?_
  refine lv_ishr (pc := 2) hx hb dX9_placeOf_2 ?_
  refine lv_bipush (v := 15) (pc := 3) hx hb dX9_placeOf_3 (by decide) ?_
  refine lv_iand (pc := 5) hx hb dX9_placeOf_5 ?_
  refine lv_iload_n (pc := 6) hx hb dX9_placeOf_6 rfl (lv_at hl 0 rfl) ?_
  refine lv_bipush (v := 6) (pc := 7) hx hb dX9_placeOf_7 (by decide) ?_
  refine lv_ishr (pc := 9) hx hb dX9_placeOf_9 ?_
  refine lv_bipush (v := 15) (pc := 10) hx hb dX9_placeOf_10 (by decide) ?_
  refine lv_iand (pc := 12) hx hb dX9_placeOf_12 ?_
  refine lv_iconst (v := 4) (pc := 13) hx hb dX9_placeOf_13 (by decide) ?_
  refine lv_ishl (pc := 14) hx hb dX9_placeOf_14 ?_
  refine lv_ior (pc := 15) hx hb dX9_placeOf_15 ?_
  refine lv_iload_n (pc := 16) hx hb dX9_placeOf_16 rfl (lv_at hl 0 rfl) ?_
  refine lv_bipush (v := 11) (pc := 17) hx hb dX9_placeOf_17 (by decide) ?_
  refine lv_ishr (pc := 19) hx hb dX9_placeOf_19 ?_
  refine lv_bipush (v := 15) (pc := 20) hx hb dX9_placeOf_20 (by decide) ?_
  refine lv_iand (pc := 22) hx hb dX9_placeOf_22 ?_
  refine lv_bipush (v := 8) (pc := 23) hx hb dX9_placeOf_23 (by decide) ?_
  refine lv_ishl (pc := 25) hx hb dX9_placeOf_25 ?_
  refine lv_ior (pc := 26) hx hb dX9_placeOf_26 ?_
  have hF : F_X9_placeOf x = (((x >>> ((1 : Int32) &&& 31)) &&& (15 : Int32)) ||| (((x >>> ((6 : Int32) &&& 31)) &&& (15 : Int32)) <<< ((4 : Int32) &&& 31))) ||| (((x >>> ((11 : Int32) &&& 31)) &&& (15 : Int32)) <<< ((8 : Int32) &&& 31)) := show F_X9_placeOf x = (((x >>> ((1 : Int32) &&& 31)) &&& (15 : Int32)) ||| (((x >>> ((6 : Int32) &&& 31)) &&& (15 : Int32)) <<< ((4 : Int32) &&& 31))) ||| (((x >>> ((11 : Int32) &&& 31)) &&& (15 : Int32)) <<< ((8 : Int32) &&& 31)) from rfl
  exact e_i (u := []) X hQ hr (hW) [] rfl rfl (⟨hF.symm, rfl⟩) ⟨Nat.le_of_ble_eq_true rfl, Nat.le_of_ble_eq_true rfl⟩ dX9_placeOf_27

theorem pl9_num {x : Int32} : F_X9_placeOf x = nI (tN (F_X9_placeOf x)) ∧ tN (F_X9_placeOf x) < 4096 :=
  sB_num (k := 12) (by decide) (sB_or (sB_or (sB_15 (by decide)) (sB_15s (s := 4) (by decide) (by decide))) (sB_15s (s := 8) (by decide) (by decide)))
def F_X9_stateAt (x : Int32) : Int32 := (((33825 : Int32) ||| ((x &&& (15 : Int32)) <<< ((1 : Int32) &&& 31))) ||| (((x >>> ((4 : Int32) &&& 31)) &&& (15 : Int32)) <<< ((6 : Int32) &&& 31))) ||| (((x >>> ((8 : Int32) &&& 31)) &&& (15 : Int32)) <<< ((11 : Int32) &&& 31))
set_option maxHeartbeats 4000000 in
set_option maxRecDepth 100000 in
theorem K_X9_stateAt (l : Launch) (g : GG) (x : Int32)  : MetI l g yX9_stateAt cX9_stateAt 1 (some .int) 0 0 0 [.int x] [] (fun r u => r = (F_X9_stateAt x) ∧ u = []) := by
  refine MetI.of (own := RX9) rfl (by decide) (Nat.le_of_ble_eq_true rfl) ?_
  intro p e s m below meth c A ls args Q hQ X hr hin hW hl
  have hx := X.1
  have hb := X.2.1
  have hl : lv_has ls 1 [(0, .int x)] := hl
  refine lv_ldc (pc := 0) hx hb X.2.2.2.1 (X.2.2.2.2.1 _ m_939) dX9_stateAt_0 ?_
  refine lv_iload_n (pc := 2) hx hb dX9_stateAt_2 rfl (lv_at hl 0 rfl) ?_
  refine lv_bipush (v := 15) (pc := 3) hx hb dX9_stateAt_3 (by decide) ?_
  refine lv_iand (pc := 5) hx hb dX9_stateAt_5 ?_
  refine lv_iconst (v := 1) (pc := 6) hx hb dX9_stateAt_6 (by decide) ?_
  refine lv_ishl (pc := 7) hx hb dX9_stateAt_7 ?_
  refine lv_ior (pc := 8) hx hb dX9_stateAt_8 ?_
  refine lv_iload_n (pc := 9) hx hb dX9_stateAt_9 rfl (lv_at hl 0 rfl) ?_
  refine lv_iconst (v := 4) (pc := 10) hx hb dX9_stateAt_10 (by decide) ?_
  refine lv_ishr (pc := 11) hx hb dX9_stateAt_11 ?_
  refine lv_bipush (v := 15) (pc := 12) hx hb dX9_stateAt_12 (by decide) ?_
  refine lv_iand (pc := 14) hx hb dX9_stateAt_14 ?_
  refine lv_bipush (v := 6) (pc := 15) hx hb dX9_stateAt_15 (by decide) ?_
  refine lv_ishl (pc := 17) hx hb dX9_stateAt_17 ?_
  refine lv_ior (pc := 18) hx hb dX9_stateAt_18 ?_
  refine lv_iload_n (pc := 19) hx hb dX9_stateAt_19 rfl (lv_at hl 0 rfl) ?_
  refine lv_bipush (v := 8) (pc := 20) hx hb dX9_stateAt_20 (by decide) ?_
  refine lv_ishr (pc := 22) hx hb dX9_stateAt_22 ?_
  refine lv_bipush (v := 15) (pc := 23) hx hb dX9_stateAt_23 (by decide) ?_
  refine lv_iand (pc := 25) hx hb dX9_stateAt_25 ?_
  refine lv_bipush (v := 11) (pc := 26) hx hb dX9_stateAt_26 (by decide) ?_
  refine lv_ishl (pc := 28) hx hb dX9_stateAt_28 ?_
  refine lv_ior (pc := 29) hx hb dX9_stateAt_29 ?_
  have hF : F_X9_stateAt x = (((33825 : Int32) ||| ((x &&& (15 : Int32)) <<< ((1 : Int32) &&& 31))) ||| (((x >>> ((4 : Int32) &&& 31)) &&& (15 : Int32)) <<< ((6 : Int32) &&& 31))) ||| (((x >>> ((8 : Int32) &&& 31)) &&& (15 : Int32)) <<< ((11 : Int32) &&& 31)) := show F_X9_stateAt x = (((33825 : Int32) ||| ((x &&& (15 : Int32)) <<< ((1 : Int32) &&& 31))) ||| (((x >>> ((4 : Int32) &&& 31)) &&& (15 : Int32)) <<< ((6 : Int32) &&& 31))) ||| (((x >>> ((8 : Int32) &&& 31)) &&& (15 : Int32)) <<< ((11 : Int32) &&& 31)) from rfl
  exact e_i (u := []) X hQ hr (hW) [] rfl rfl (⟨hF.symm, rfl⟩) ⟨Nat.le_of_ble_eq_true rfl, Nat.le_of_ble_eq_true rfl⟩ dX9_stateAt_30

def F_X9_join (x : Int32) (cu : Nat) : Int32 := (x ||| ((((x >>> ((nI (4 * (cAT cu))) &&& 31)) ||| (x >>> ((nI (4 * (cBT cu))) &&& 31))) &&& (15 : Int32)) <<< ((nI (4 * (cAT cu))) &&& 31))) ||| ((((x >>> ((nI (4 * (cAT cu))) &&& 31)) ||| (x >>> ((nI (4 * (cBT cu))) &&& 31))) &&& (15 : Int32)) <<< ((nI (4 * (cBT cu))) &&& 31))
set_option maxHeartbeats 4000000 in
set_option maxRecDepth 100000 in
theorem K_X9_join (l : Launch) (g : GG) (x : Int32) (cu : Nat) (hc : cu < 6) : MetI l g yX9_join cX9_join 5 (some .int) 0 0 0 [.int x, .int (nI cu)] [] (fun r u => r = (F_X9_join x cu) ∧ u = []) := by
  refine MetI.of (own := RX9) rfl (by decide) (Nat.le_of_ble_eq_true rfl) ?_
  intro p e s m below meth c A ls args Q hQ X hr hin hW hl
  have hx := X.1
  have hb := X.2.1
  have hl : lv_has ls 5 [(0, .int x), (1, .int (nI cu))] := hl
  refine lv_iconst (v := 4) (pc := 0) hx hb dX9_join_0 (by decide) ?_
  refine va_gets (pc := 1) hx hb X.2.2.2.2.2.2.1.1.1 hW.2.2 X.2.2.2.1 (X.2.2.2.2.1 _ m_212) (fun _ h9 => h9) dX9_join_1 ?_
  refine lv_iload_n (pc := 4) hx hb dX9_join_4 rfl (lv_at hl 1 rfl) ?_
  refine va_ti (pc := 5) hx hb X.2.2.2.2.2.2.1.1.2 hW.2.2 (vp_in_nI (by omega) (by decide)) (fCA_at cu (by omega)) dX9_join_5 ?_
  refine lv_imul (pc := 6) hx hb dX9_join_6 ?_
  refine lv_topi (fun v1 ev1 => ?_)
  obtain rfl : v1 = nI (4 * (cAT cu)) := ev1.trans (pk_mul 4 (cAT cu))
  refine lv_istore_n (lv' := [(2, .int (nI (4 * (cAT cu)))), (0, .int x), (1, .int (nI cu))]) (pc := 7) hx hb dX9_join_7 rfl hl (by decide) rfl (fun ls hl => ?_)
  refine lv_iconst (v := 4) (pc := 8) hx hb dX9_join_8 (by decide) ?_
  refine va_gets (pc := 9) hx hb X.2.2.2.2.2.2.1.2.1 hW.2.2 X.2.2.2.1 (X.2.2.2.2.1 _ m_955) (fun _ h9 => h9) dX9_join_9 ?_
  refine lv_iload_n (pc := 12) hx hb dX9_join_12 rfl (lv_at hl 2 rfl) ?_
  refine va_ti (pc := 13) hx hb X.2.2.2.2.2.2.1.2.2 hW.2.2 (vp_in_nI (by omega) (by decide)) (fCB_at cu (by omega)) dX9_join_13 ?_
  refine lv_imul (pc := 14) hx hb dX9_join_14 ?_
  refine lv_topi (fun v2 ev2 => ?_)
  obtain rfl : v2 = nI (4 * (cBT cu)) := ev2.trans (pk_mul 4 (cBT cu))
  refine lv_istore_n (lv' := [(3, .int (nI (4 * (cBT cu)))), (2, .int (nI (4 * (cAT cu)))), (0, .int x), (1, .int (nI cu))]) (pc := 15) hx hb dX9_join_15 rfl hl (by decide) rfl (fun ls hl => ?_)
  refine lv_iload_n (pc := 16) hx hb dX9_join_16 rfl (lv_at hl 2 rfl) ?_
  refine lv_iload_n (pc := 17) hx hb dX9_join_17 rfl (lv_at hl 1 rfl) ?_
  refine lv_ishr (pc := 18) hx hb dX9_join_18 ?_
  refine lv_iload_n (pc := 19) hx hb dX9_join_19 rfl (lv_at hl 2 rfl) ?_
  refine lv_iload_n (pc := 20) hx hb dX9_join_20 rfl (lv_at hl 0 rfl) ?_
  refine lv_ishr (pc := 21) hx hb dX9_join_21 ?_
  refine lv_ior (pc := 22) hx hb dX9_join_22 ?_
  refine lv_bipush (v := 15) (pc := 23) hx hb dX9_join_23 (by decide) ?_
  refine lv_iand (pc := 25) hx hb dX9_join_25 ?_
  refine lv_istore (lv' := [(4, .int (((x >>> ((nI (4 * (cAT cu))) &&& 31)) ||| (x >>> ((nI (4 * (cBT cu))) &&& 31))) &&& (15 : Int32))), (3, .int (nI (4 * (cBT cu)))), (2, .int (nI (4 * (cAT cu)))), (0, .int x), (1, .int (nI cu))]) (pc := 26) hx hb dX9_join_26 hl (by decide) rfl (fun ls hl => ?_)
  refine lv_iload_n (pc := 28) hx hb dX9_join_28 rfl (lv_at hl 3 rfl) ?_
  refine lv_iload (pc := 29) hx hb dX9_join_29 (lv_at hl 0 rfl) ?_
  refine lv_iload_n (pc := 31) hx hb dX9_join_31 rfl (lv_at hl 2 rfl) ?_
  refine lv_ishl (pc := 32) hx hb dX9_join_32 ?_
  refine lv_ior (pc := 33) hx hb dX9_join_33 ?_
  refine lv_iload (pc := 34) hx hb dX9_join_34 (lv_at hl 0 rfl) ?_
  refine lv_iload_n (pc := 36) hx hb dX9_join_36 rfl (lv_at hl 1 rfl) ?_
  refine lv_ishl (pc := 37) hx hb dX9_join_37 ?_
  refine lv_ior (pc := 38) hx hb dX9_join_38 ?_
  have hF : F_X9_join x cu = (x ||| ((((x >>> ((nI (4 * (cAT cu))) &&& 31)) ||| (x >>> ((nI (4 * (cBT cu))) &&& 31))) &&& (15 : Int32)) <<< ((nI (4 * (cAT cu))) &&& 31))) ||| ((((x >>> ((nI (4 * (cAT cu))) &&& 31)) ||| (x >>> ((nI (4 * (cBT cu))) &&& 31))) &&& (15 : Int32)) <<< ((nI (4 * (cBT cu))) &&& 31)) := show F_X9_join x cu = (x ||| ((((x >>> ((nI (4 * (cAT cu))) &&& 31)) ||| (x >>> ((nI (4 * (cBT cu))) &&& 31))) &&& (15 : Int32)) <<< ((nI (4 * (cAT cu))) &&& 31))) ||| ((((x >>> ((nI (4 * (cAT cu))) &&& 31)) ||| (x >>> ((nI (4 * (cBT cu))) &&& 31))) &&& (15 : Int32)) <<< ((nI (4 * (cBT cu))) &&& 31)) from rfl
  exact e_i (u := []) X hQ hr (hW) [] rfl rfl (⟨hF.symm, rfl⟩) ⟨Nat.le_of_ble_eq_true rfl, Nat.le_of_ble_eq_true rfl⟩ dX9_join_39

def F_X9_improve (fx : Nat → Int32) (x : Int32) (k : Int32) : (Nat → Int32) := (upd fx (tN (F_X9_placeOf x)) (mn2 (fx (tN (F_X9_placeOf x))) k))
set_option maxHeartbeats 4000000 in
set_option maxRecDepth 100000 in
theorem K_X9_improve (l : Launch) (g : GG) (t9 : Nat) (tn : Nat) (tx : Nat) (to : Nat) (fx : Nat → Int32) (x : Int32) (k : Int32)  : MetV l g yX9_improve cX9_improve 4 none 1 0 0 [.ref t9, .int x, .int k] [(t9, .inr (9, [.ref tn, .ref tx, .ref to])), (tx, .inl (g.2.1 1, 4096, .inl fx))] (fun u => u = [(t9, .inr (9, [.ref tn, .ref tx, .ref to])), (tx, .inl (g.2.1 1, 4096, .inl (F_X9_improve fx x k)))]) := by
  refine MetV.of (own := RX9) rfl (by decide) (Nat.le_of_ble_eq_true rfl) ?_
  intro p e s m below meth c A ls args Q hQ X hr hin hW hl
  have hx := X.1
  have hb := X.2.1
  have hl : lv_has ls 4 [(0, .ref t9), (1, .int x), (2, .int k)] := hl
  refine lv_iload_n (pc := 0) hx hb dX9_improve_0 rfl (lv_at hl 1 rfl) ?_
  refine c_Si (pc := 1) (As := [.int x]) (rest := []) (wr := [(t9, .inr (9, [.ref tn, .ref tx, .ref to])), (tx, .inl (g.2.1 1, 4096, .inl fx))]) X hW (K_X9_placeOf l g x) vX9_32 [] [0, 1] rfl rfl rfl rfl rfl rfl hl.1 rfl (Nat.le_of_ble_eq_true rfl) ⟨Nat.le_of_ble_eq_true rfl, Nat.le_of_ble_eq_true rfl⟩ ⟨Nat.le_of_ble_eq_true rfl, Nat.le_of_ble_eq_true rfl⟩ dX9_improve_1 (fun r1 u9 H locs hq hW => ?_)
  obtain ⟨rfl, rfl⟩ := hq
  have hW : WD g A s _ _ [(t9, .inr (9, [.ref tn, .ref tx, .ref to])), (tx, .inl (g.2.1 1, 4096, .inl fx))] := hW
  have hpl := pl9_num (x := x)
  have hpl2 := hpl.2
  rw [hpl.1]
  refine lv_istore_n (lv' := [(3, .int (nI (tN (F_X9_placeOf x)))), (0, .ref t9), (1, .int x), (2, .int k)]) (pc := 4) hx hb dX9_improve_4 rfl hl (by decide) rfl (fun ls hl => ?_)
  refine lv_aload_n (pc := 5) hx hb dX9_improve_5 rfl (lv_at hl 1 rfl) ?_
  refine r_get X hW 0 ciX9 1 rfl (by decide) m_215 rfl rfl dX9_improve_6 ?_
  refine lv_iload_n (pc := 9) hx hb dX9_improve_9 rfl (lv_at hl 0 rfl) ?_
  refine lv_aload_n (pc := 10) hx hb dX9_improve_10 rfl (lv_at hl 1 rfl) ?_
  refine r_get X hW 0 ciX9 1 rfl (by decide) m_215 rfl rfl dX9_improve_11 ?_
  refine lv_iload_n (pc := 14) hx hb dX9_improve_14 rfl (lv_at hl 0 rfl) ?_
  refine r_iald X hW 1 rfl (vp_in_nI (by omega) (by decide)) dX9_improve_15 ?_
  refine lv_topi (fun v2 ev2 => ?_)
  obtain rfl : v2 = fx (tN (F_X9_placeOf x)) := ev2.trans (by rw [nI_clamp (by omega)])
  refine lv_iload_n (pc := 16) hx hb dX9_improve_16 rfl (lv_at hl 3 rfl) ?_
  refine va_mmin (pc := 17) hx hb (X.2.2.1.trans hl.1.symm) X.2.2.2.1 (X.2.2.2.2.1 _ mm_X9_17) (X.2.2.2.2.1 _ mms_min) (X.2.2.2.2.1 _ m_19) (X.2.2.2.2.1 _ mmc_min) (Nat.le_of_ble_eq_true rfl) (Nat.le_of_ble_eq_true rfl) (Nat.le_of_ble_eq_true rfl) (Nat.le_of_ble_eq_true rfl) dX9_improve_17 ?_
  refine lv_topi (fun v3 ev3 => ?_)
  obtain rfl : v3 = mn2 (fx (tN (F_X9_placeOf x))) k := ev3.trans (rfl)
  refine r_iast (ws' := [(t9, .inr (9, [.ref tn, .ref tx, .ref to])), (tx, .inl (g.2.1 1, 4096, .inl (upd fx (tN (F_X9_placeOf x)) (mn2 (fx (tN (F_X9_placeOf x))) k))))]) X hW 1 rfl (vp_in_nI (by omega) (by decide)) (f' := (upd fx (tN (F_X9_placeOf x)) (mn2 (fx (tN (F_X9_placeOf x))) k))) (by rw [nI_clamp (by omega)]) rfl dX9_improve_20 (fun H locs hW => ?_)
  have hF : F_X9_improve fx x k = (upd fx (tN (F_X9_placeOf x)) (mn2 (fx (tN (F_X9_placeOf x))) k)) := show F_X9_improve fx x k = (upd fx (tN (F_X9_placeOf x)) (mn2 (fx (tN (F_X9_placeOf x))) k)) from rfl
  exact e_v (u := [(t9, .inr (9, [.ref tn, .ref tx, .ref to])), (tx, .inl (g.2.1 1, 4096, .inl (upd fx (tN (F_X9_placeOf x)) (mn2 (fx (tN (F_X9_placeOf x))) k))))]) X hQ hr (hW) [0, 1] rfl rfl (by rw [hF]) ⟨Nat.le_of_ble_eq_true rfl, Nat.le_of_ble_eq_true rfl⟩ dX9_improve_21

def L1_X9_goOns (fo : Nat → Int32) (x : Int32) (k : Int32) (j1 : Nat) (ftx_1 : Nat → Int32) : (Nat → Int32) := if fo j1 = 0 then (ftx_1) else (if fo (5 - j1) = 0 then ((F_X9_improve ftx_1 (F_X9_join x j1) (k + (1 : Int32)))) else ((F_X9_improve (F_X9_improve ftx_1 (F_X9_join x j1) (k + (1 : Int32))) (F_X9_join (F_X9_join x j1) (5 - j1)) (k + (2 : Int32)))))
def L1_X9_goOn (fo : Nat → Int32) (x : Int32) (k : Int32) (i0_ : Nat → Int32) : Nat → (Nat → Int32)
  | 0 => (i0_)
  | k_ + 1 => L1_X9_goOns fo x k k_ (L1_X9_goOn fo x k i0_ k_)
def F_X9_goOn (fx : Nat → Int32) (fo : Nat → Int32) (x : Int32) (k : Int32) : (Nat → Int32) := (L1_X9_goOn fo x k fx 6)
set_option maxHeartbeats 4000000 in
set_option maxRecDepth 100000 in
theorem K_X9_goOn (l : Launch) (g : GG) (t9 : Nat) (tn : Nat) (tx : Nat) (to : Nat) (fx : Nat → Int32) (fo : Nat → Int32) (x : Int32) (k : Int32)  : MetV l g yX9_goOn cX9_goOn 6 none 2 0 0 [.ref t9, .int x, .int k] [(t9, .inr (9, [.ref tn, .ref tx, .ref to])), (tx, .inl (g.2.1 1, 4096, .inl fx)), (to, .inl (g.2.1 3, 6, .inl fo))] (fun u => u = [(t9, .inr (9, [.ref tn, .ref tx, .ref to])), (tx, .inl (g.2.1 1, 4096, .inl (F_X9_goOn fx fo x k))), (to, .inl (g.2.1 3, 6, .inl fo))]) := by
  refine MetV.of (own := RX9) rfl (by decide) (Nat.le_of_ble_eq_true rfl) ?_
  intro p e s m below meth c A ls args Q hQ X hr hin hW hl
  have hx := X.1
  have hb := X.2.1
  have hl : lv_has ls 6 [(0, .ref t9), (1, .int x), (2, .int k)] := hl
  refine lv_iconst (v := 0) (pc := 0) hx hb dX9_goOn_0 (by decide) ?_
  refine lv_istore_n (lv' := [(3, .int 0), (0, .ref t9), (1, .int x), (2, .int k)]) (pc := 1) hx hb dX9_goOn_1 rfl hl (by decide) rfl (fun ls hl => ?_)
  have loop1 : ∀ (fu1 : Nat) (j1 : Nat) (ftx_1 : Nat → Int32), (6 < fu1 + j1) → (j1 ≤ 6) → (ftx_1 = L1_X9_goOn fo x k fx j1) → ∀ (H : Heap) (locs : List Loc) (ls : Array Slot), WD g A s H locs [(t9, .inr (9, [.ref tn, .ref tx, .ref to])), (tx, .inl (g.2.1 1, 4096, .inl ftx_1)), (to, .inl (g.2.1 3, 6, .inl fo))] → lv_has ls 6 [(3, .int (nI j1)), (0, .ref t9), (1, .int x), (2, .int k)] → W p l e (RM 2 0 0) s m args below meth c H locs 0 0 Q (F0 m 2 ls []) := by
    intro fu1
    induction fu1 with
    | zero =>
      intro j1 ftx_1 hm1 hj1 hst1
      exact absurd hm1 (by omega)
    | succ fu1 ih1 =>
      intro j1 ftx_1 hm1 hj1 hst1 H locs ls hW hl
      refine lv_iload_n (pc := 2) hx hb dX9_goOn_2 rfl (lv_at hl 0 rfl) ?_
      refine lv_aload_n (pc := 3) hx hb dX9_goOn_3 rfl (lv_at hl 1 rfl) ?_
      refine r_get X hW 0 ciX9 2 rfl (by decide) m_216 rfl rfl dX9_goOn_4 ?_
      refine r_alen (v := 6) X hW 2 3 rfl rfl rfl dX9_goOn_7 ?_
      refine lv_icmp_ge (tgt := 80) (pc := 8) hx hb dX9_goOn_8 rfl (fun c1 => ?_) (fun c1 => ?_)
      · have h2 : 6 ≤ j1 := (nI_leI (a := 6) (b := j1) (by omega) (by omega)).mp c1
        have hN1 : j1 = 6 := by omega
        rw [hN1] at hst1
        subst hst1
        have hW : WD g A s _ _ [(t9, .inr (9, [.ref tn, .ref tx, .ref to])), (tx, .inl (g.2.1 1, 4096, .inl (L1_X9_goOn fo x k fx 6))), (to, .inl (g.2.1 3, 6, .inl fo))] := hW
        have hF : F_X9_goOn fx fo x k = (L1_X9_goOn fo x k fx 6) := show F_X9_goOn fx fo x k = (L1_X9_goOn fo x k fx 6) from rfl
        exact e_v (u := [(t9, .inr (9, [.ref tn, .ref tx, .ref to])), (tx, .inl (g.2.1 1, 4096, .inl (L1_X9_goOn fo x k fx 6))), (to, .inl (g.2.1 3, 6, .inl fo))]) X hQ hr (hW) [0, 1, 2] rfl rfl (by rw [hF]) ⟨Nat.le_of_ble_eq_true rfl, Nat.le_of_ble_eq_true rfl⟩ dX9_goOn_80
      · have h3 : ¬ (6 ≤ j1) := fun q => c1 ((nI_leI (a := 6) (b := j1) (by omega) (by omega)).mpr q)
        refine lv_aload_n (pc := 11) hx hb dX9_goOn_11 rfl (lv_at hl 1 rfl) ?_
        refine r_get X hW 0 ciX9 2 rfl (by decide) m_216 rfl rfl dX9_goOn_12 ?_
        refine lv_iload_n (pc := 15) hx hb dX9_goOn_15 rfl (lv_at hl 0 rfl) ?_
        refine r_zald X hW 2 rfl (vp_in_nI (by omega) (by decide)) dX9_goOn_16 ?_
        refine lv_topi (fun v4 ev4 => ?_)
        obtain rfl : v4 = fo j1 := ev4.trans (by rw [nI_clamp (by omega)])
        refine lv_if_ne (tgt := 23) (pc := 17) hx hb dX9_goOn_17 rfl (fun c5 => ?_) (fun c5 => ?_)
        · refine lv_iload_n (pc := 23) hx hb dX9_goOn_23 rfl (lv_at hl 2 rfl) ?_
          refine lv_iload_n (pc := 24) hx hb dX9_goOn_24 rfl (lv_at hl 0 rfl) ?_
          refine c_Si (pc := 25) (As := [.int x, .int (nI j1)]) (rest := []) (wr := [(t9, .inr (9, [.ref tn, .ref tx, .ref to])), (tx, .inl (g.2.1 1, 4096, .inl ftx_1)), (to, .inl (g.2.1 3, 6, .inl fo))]) X hW (K_X9_join l g x j1 (by omega)) vX9_89 [] [0, 1, 2] rfl rfl rfl rfl rfl rfl hl.1 rfl (Nat.le_of_ble_eq_true rfl) ⟨Nat.le_of_ble_eq_true rfl, Nat.le_of_ble_eq_true rfl⟩ ⟨Nat.le_of_ble_eq_true rfl, Nat.le_of_ble_eq_true rfl⟩ dX9_goOn_25 (fun r7 u9 H locs hq hW => ?_)
          obtain ⟨rfl, rfl⟩ := hq
          have hW : WD g A s _ _ [(t9, .inr (9, [.ref tn, .ref tx, .ref to])), (tx, .inl (g.2.1 1, 4096, .inl ftx_1)), (to, .inl (g.2.1 3, 6, .inl fo))] := hW
          refine lv_istore (lv' := [(4, .int (F_X9_join x j1)), (3, .int (nI j1)), (0, .ref t9), (1, .int x), (2, .int k)]) (pc := 28) hx hb dX9_goOn_28 hl (by decide) rfl (fun ls hl => ?_)
          refine lv_aload_n (pc := 30) hx hb dX9_goOn_30 rfl (lv_at hl 2 rfl) ?_
          refine lv_iload (pc := 31) hx hb dX9_goOn_31 (lv_at hl 0 rfl) ?_
          refine lv_iload_n (pc := 33) hx hb dX9_goOn_33 rfl (lv_at hl 4 rfl) ?_
          refine lv_iconst (v := 1) (pc := 34) hx hb dX9_goOn_34 (by decide) ?_
          refine lv_iadd (pc := 35) hx hb dX9_goOn_35 ?_
          refine c_Vv (pc := 36) (As := [.int (F_X9_join x j1), .int (k + (1 : Int32))]) (rest := []) (wr := [(to, .inl (g.2.1 3, 6, .inl fo))]) X hW 0 ciX9 rfl (K_X9_improve l g t9 tn tx to ftx_1 (F_X9_join x j1) (k + (1 : Int32))) vX9_92 [0, 1] [2] rfl rfl rfl rfl rfl rfl hl.1 rfl (Nat.le_of_ble_eq_true rfl) ⟨Nat.le_of_ble_eq_true rfl, Nat.le_of_ble_eq_true rfl⟩ ⟨Nat.le_of_ble_eq_true rfl, Nat.le_of_ble_eq_true rfl⟩ dX9_goOn_36 (fun u9 H locs hq hW => ?_)
          obtain rfl := hq
          have hW : WD g A s _ _ [(to, .inl (g.2.1 3, 6, .inl fo)), (t9, .inr (9, [.ref tn, .ref tx, .ref to])), (tx, .inl (g.2.1 1, 4096, .inl (F_X9_improve ftx_1 (F_X9_join x j1) (k + (1 : Int32)))))] := hW
          refine lv_aload_n (pc := 39) hx hb dX9_goOn_39 rfl (lv_at hl 2 rfl) ?_
          refine r_get X hW 1 ciX9 2 rfl (by decide) m_216 rfl rfl dX9_goOn_40 ?_
          refine r_alen (v := 6) X hW 0 3 rfl rfl rfl dX9_goOn_43 ?_
          refine lv_iconst (v := 1) (pc := 44) hx hb dX9_goOn_44 (by decide) ?_
          refine lv_isub (pc := 45) hx hb dX9_goOn_45 ?_
          refine lv_topi (fun v8 ev8 => ?_)
          obtain rfl : v8 = 5 := ev8.trans (by decide +kernel)
          refine lv_iload_n (pc := 46) hx hb dX9_goOn_46 rfl (lv_at hl 1 rfl) ?_
          refine lv_isub (pc := 47) hx hb dX9_goOn_47 ?_
          refine lv_topi (fun v9 ev9 => ?_)
          obtain rfl : v9 = nI (5 - j1) := ev9.trans (nI_sub5 (by omega))
          refine lv_istore (lv' := [(5, .int (nI (5 - j1))), (4, .int (F_X9_join x j1)), (3, .int (nI j1)), (0, .ref t9), (1, .int x), (2, .int k)]) (pc := 48) hx hb dX9_goOn_48 hl (by decide) rfl (fun ls hl => ?_)
          refine lv_aload_n (pc := 50) hx hb dX9_goOn_50 rfl (lv_at hl 3 rfl) ?_
          refine r_get X hW 1 ciX9 2 rfl (by decide) m_216 rfl rfl dX9_goOn_51 ?_
          refine lv_iload (pc := 54) hx hb dX9_goOn_54 (lv_at hl 0 rfl) ?_
          refine r_zald X hW 0 rfl (vp_in_nI (by omega) (by decide)) dX9_goOn_56 ?_
          refine lv_topi (fun v10 ev10 => ?_)
          obtain rfl : v10 = fo (5 - j1) := ev10.trans (by rw [nI_clamp (by omega)])
          refine lv_if_eq (tgt := 74) (pc := 57) hx hb dX9_goOn_57 rfl (fun c11 => ?_) (fun c11 => ?_)
          · refine lv_iinc (v := nI (j1 + 1)) (lv' := [(3, .int (nI (j1 + 1))), (5, .int (nI (5 - j1))), (4, .int (F_X9_join x j1)), (0, .ref t9), (1, .int x), (2, .int k)]) (pc := 74) hx hb dX9_goOn_74 hl (k := 2) rfl (nI_add j1 1) (by decide) rfl (fun ls hl => ?_)
            refine lv_goto (tgt := 2) (pc := 77) hx hb dX9_goOn_77 rfl ?_
            have hW : WD g A s _ _ [(t9, .inr (9, [.ref tn, .ref tx, .ref to])), (tx, .inl (g.2.1 1, 4096, .inl (F_X9_improve ftx_1 (F_X9_join x j1) (k + (1 : Int32))))), (to, .inl (g.2.1 3, 6, .inl fo))] := hW.pick [1, 2, 0] rfl rfl
            exact ih1 (j1 + 1) (F_X9_improve ftx_1 (F_X9_join x j1) (k + (1 : Int32))) (by omega) (by omega) (by rw [L1_X9_goOn, ← hst1]; exact (show L1_X9_goOns fo x k j1 ftx_1 = (F_X9_improve ftx_1 (F_X9_join x j1) (k + (1 : Int32))) from by rw [L1_X9_goOns, if_neg c5, if_pos c11]).symm) _ _ _ hW (lv_sub hl [0, 3, 4, 5] rfl)
          · refine lv_aload_n (pc := 60) hx hb dX9_goOn_60 rfl (lv_at hl 3 rfl) ?_
            refine lv_iload (pc := 61) hx hb dX9_goOn_61 (lv_at hl 1 rfl) ?_
            refine lv_iload (pc := 63) hx hb dX9_goOn_63 (lv_at hl 0 rfl) ?_
            refine c_Si (pc := 65) (As := [.int (F_X9_join x j1), .int (nI (5 - j1))]) (rest := [.ref t9]) (wr := [(to, .inl (g.2.1 3, 6, .inl fo)), (t9, .inr (9, [.ref tn, .ref tx, .ref to])), (tx, .inl (g.2.1 1, 4096, .inl (F_X9_improve ftx_1 (F_X9_join x j1) (k + (1 : Int32)))))]) X hW (K_X9_join l g (F_X9_join x j1) (5 - j1) (by omega)) vX9_89 [] [0, 1, 2] rfl rfl rfl rfl rfl rfl hl.1 rfl (Nat.le_of_ble_eq_true rfl) ⟨Nat.le_of_ble_eq_true rfl, Nat.le_of_ble_eq_true rfl⟩ ⟨Nat.le_of_ble_eq_true rfl, Nat.le_of_ble_eq_true rfl⟩ dX9_goOn_65 (fun r14 u9 H locs hq hW => ?_)
            obtain ⟨rfl, rfl⟩ := hq
            have hW : WD g A s _ _ [(to, .inl (g.2.1 3, 6, .inl fo)), (t9, .inr (9, [.ref tn, .ref tx, .ref to])), (tx, .inl (g.2.1 1, 4096, .inl (F_X9_improve ftx_1 (F_X9_join x j1) (k + (1 : Int32)))))] := hW
            refine lv_iload_n (pc := 68) hx hb dX9_goOn_68 rfl (lv_at hl 5 rfl) ?_
            refine lv_iconst (v := 2) (pc := 69) hx hb dX9_goOn_69 (by decide) ?_
            refine lv_iadd (pc := 70) hx hb dX9_goOn_70 ?_
            refine c_Vv (pc := 71) (As := [.int (F_X9_join (F_X9_join x j1) (5 - j1)), .int (k + (2 : Int32))]) (rest := []) (wr := [(to, .inl (g.2.1 3, 6, .inl fo))]) X hW 1 ciX9 rfl (K_X9_improve l g t9 tn tx to (F_X9_improve ftx_1 (F_X9_join x j1) (k + (1 : Int32))) (F_X9_join (F_X9_join x j1) (5 - j1)) (k + (2 : Int32))) vX9_92 [1, 2] [0] rfl rfl rfl rfl rfl rfl hl.1 rfl (Nat.le_of_ble_eq_true rfl) ⟨Nat.le_of_ble_eq_true rfl, Nat.le_of_ble_eq_true rfl⟩ ⟨Nat.le_of_ble_eq_true rfl, Nat.le_of_ble_eq_true rfl⟩ dX9_goOn_71 (fun u9 H locs hq hW => ?_)
            obtain rfl := hq
            have hW : WD g A s _ _ [(to, .inl (g.2.1 3, 6, .inl fo)), (t9, .inr (9, [.ref tn, .ref tx, .ref to])), (tx, .inl (g.2.1 1, 4096, .inl (F_X9_improve (F_X9_improve ftx_1 (F_X9_join x j1) (k + (1 : Int32))) (F_X9_join (F_X9_join x j1) (5 - j1)) (k + (2 : Int32)))))] := hW
            refine lv_iinc (v := nI (j1 + 1)) (lv' := [(3, .int (nI (j1 + 1))), (5, .int (nI (5 - j1))), (4, .int (F_X9_join x j1)), (0, .ref t9), (1, .int x), (2, .int k)]) (pc := 74) hx hb dX9_goOn_74 hl (k := 2) rfl (nI_add j1 1) (by decide) rfl (fun ls hl => ?_)
            refine lv_goto (tgt := 2) (pc := 77) hx hb dX9_goOn_77 rfl ?_
            have hW : WD g A s _ _ [(t9, .inr (9, [.ref tn, .ref tx, .ref to])), (tx, .inl (g.2.1 1, 4096, .inl (F_X9_improve (F_X9_improve ftx_1 (F_X9_join x j1) (k + (1 : Int32))) (F_X9_join (F_X9_join x j1) (5 - j1)) (k + (2 : Int32))))), (to, .inl (g.2.1 3, 6, .inl fo))] := hW.pick [1, 2, 0] rfl rfl
            exact ih1 (j1 + 1) (F_X9_improve (F_X9_improve ftx_1 (F_X9_join x j1) (k + (1 : Int32))) (F_X9_join (F_X9_join x j1) (5 - j1)) (k + (2 : Int32))) (by omega) (by omega) (by rw [L1_X9_goOn, ← hst1]; exact (show L1_X9_goOns fo x k j1 ftx_1 = (F_X9_improve (F_X9_improve ftx_1 (F_X9_join x j1) (k + (1 : Int32))) (F_X9_join (F_X9_join x j1) (5 - j1)) (k + (2 : Int32))) from by rw [L1_X9_goOns, if_neg c5, if_neg c11]).symm) _ _ _ hW (lv_sub hl [0, 3, 4, 5] rfl)
        · refine lv_goto (tgt := 74) (pc := 20) hx hb dX9_goOn_20 rfl ?_
          refine lv_iinc (v := nI (j1 + 1)) (lv' := [(3, .int (nI (j1 + 1))), (0, .ref t9), (1, .int x), (2, .int k)]) (pc := 74) hx hb dX9_goOn_74 hl (k := 0) rfl (nI_add j1 1) (by decide) rfl (fun ls hl => ?_)
          refine lv_goto (tgt := 2) (pc := 77) hx hb dX9_goOn_77 rfl ?_
          exact ih1 (j1 + 1) ftx_1 (by omega) (by omega) (by rw [L1_X9_goOn, ← hst1]; exact (show L1_X9_goOns fo x k j1 ftx_1 = ftx_1 from by rw [L1_X9_goOns, if_pos c5]).symm) _ _ _ hW (lv_sub hl [0, 1, 2, 3] rfl)
  exact loop1 (6 + 1) 0 fx (by omega) (by omega) rfl _ _ _ hW (lv_sub hl [0, 1, 2, 3] rfl)

def L3_X9_lookAtLiness (L : Nat → Int32) (j2 : Nat) (j3 : Nat) (fto_3 : Nat → Int32) : (Nat → Int32) := if nI (cAT j3) = mn2 (L (j2 * 6)) (L (j2 * 6 + 1)) then (if nI (cBT j3) = mx2 (L (j2 * 6)) (L (j2 * 6 + 1)) then ((upd fto_3 j3 (1 : Int32))) else (fto_3)) else (fto_3)
def L3_X9_lookAtLines (L : Nat → Int32) (j2 : Nat) (i0_ : Nat → Int32) : Nat → (Nat → Int32)
  | 0 => (i0_)
  | k_ + 1 => L3_X9_lookAtLiness L j2 k_ (L3_X9_lookAtLines L j2 i0_ k_)
def L2_X9_lookAtLiness (L : Nat → Int32) (h : Int32) (j2 : Nat) (fto_2 : Nat → Int32) : (Nat → Int32) := if b1 (L (j2 * 6 + 4)) = 0 then (if F_X10_works L j2 h = 0 then (fto_2) else ((L3_X9_lookAtLines L j2 fto_2 6))) else (fto_2)
def L2_X9_lookAtLines (L : Nat → Int32) (h : Int32) (i0_ : Nat → Int32) : Nat → (Nat → Int32)
  | 0 => (i0_)
  | k_ + 1 => L2_X9_lookAtLiness L h k_ (L2_X9_lookAtLines L h i0_ k_)
def L1_X9_lookAtLiness  (j1 : Nat) (fto_1 : Nat → Int32) : (Nat → Int32) := (upd fto_1 j1 (0 : Int32))
def L1_X9_lookAtLines  (i0_ : Nat → Int32) : Nat → (Nat → Int32)
  | 0 => (i0_)
  | k_ + 1 => L1_X9_lookAtLiness  k_ (L1_X9_lookAtLines  i0_ k_)
def F_X9_lookAtLines (fo : Nat → Int32) (lc : Nat) (L : Nat → Int32) (h : Int32) : (Nat → Int32) := (L2_X9_lookAtLines L h (L1_X9_lookAtLines fo 6) lc)
set_option maxHeartbeats 4000000 in
set_option maxRecDepth 100000 in
theorem K_X9_lookAtLines (l : Launch) (g : GG) (t9 : Nat) (tn : Nat) (tx : Nat) (to : Nat) (fo : Nat → Int32) (v : Nat) (v3 : Nat) (v4 : Nat) (v5 : Nat) (v6 : Nat) (v7 : Nat) (v8 : Nat) (v9 : Nat) (v10 : Nat) (v11 : Nat) (v12 : Nat) (v13 : Nat) (v15 : Nat) (pe : Int32) (lc : Nat) (de : Int32) (gl : Int32) (L : Nat → Int32) (h : Int32) (hlc : lc ≤ 12) : MetV l g yX9_lookAtLines cX9_lookAtLines 7 none 3 0 0 [.ref t9, .ref v, .int h] [(t9, .inr (9, [.ref tn, .ref tx, .ref to])), (to, .inl (g.2.1 3, 6, .inl fo)), (v, .inr (10, [.int pe, .int (nI lc), .int de, .ref v3, .ref v4, .ref v5, .ref v6, .ref v7, .ref v8, .ref v9, .ref v10, .ref v11, .ref v12, .ref v13, .int gl, .ref v15])), (v9, .inl (g.2.1 1, 72, .inl L))] (fun u => u = [(t9, .inr (9, [.ref tn, .ref tx, .ref to])), (to, .inl (g.2.1 3, 6, .inl (F_X9_lookAtLines fo lc L h))), (v, .inr (10, [.int pe, .int (nI lc), .int de, .ref v3, .ref v4, .ref v5, .ref v6, .ref v7, .ref v8, .ref v9, .ref v10, .ref v11, .ref v12, .ref v13, .int gl, .ref v15])), (v9, .inl (g.2.1 1, 72, .inl L))]) := by
  refine MetV.of (own := RX9) rfl (by decide) (Nat.le_of_ble_eq_true rfl) ?_
  intro p e s m below meth c A ls args Q hQ X hr hin hW hl
  have hx := X.1
  have hb := X.2.1
  have hl : lv_has ls 7 [(0, .ref t9), (1, .ref v), (2, .int h)] := hl
  refine lv_iconst (v := 0) (pc := 0) hx hb dX9_lookAtLines_0 (by decide) ?_
  refine lv_istore_n (lv' := [(3, .int 0), (0, .ref t9), (1, .ref v), (2, .int h)]) (pc := 1) hx hb dX9_lookAtLines_1 rfl hl (by decide) rfl (fun ls hl => ?_)
  have loop1 : ∀ (fu1 : Nat) (j1 : Nat) (fto_1 : Nat → Int32), (6 < fu1 + j1) → (j1 ≤ 6) → (fto_1 = L1_X9_lookAtLines fo j1) → ∀ (H : Heap) (locs : List Loc) (ls : Array Slot), WD g A s H locs [(t9, .inr (9, [.ref tn, .ref tx, .ref to])), (to, .inl (g.2.1 3, 6, .inl fto_1)), (v, .inr (10, [.int pe, .int (nI lc), .int de, .ref v3, .ref v4, .ref v5, .ref v6, .ref v7, .ref v8, .ref v9, .ref v10, .ref v11, .ref v12, .ref v13, .int gl, .ref v15])), (v9, .inl (g.2.1 1, 72, .inl L))] → lv_has ls 7 [(3, .int (nI j1)), (0, .ref t9), (1, .ref v), (2, .int h)] → W p l e (RM 3 0 0) s m args below meth c H locs 0 0 Q (F0 m 2 ls []) := by
    intro fu1
    induction fu1 with
    | zero =>
      intro j1 fto_1 hm1 hj1 hst1
      exact absurd hm1 (by omega)
    | succ fu1 ih1 =>
      intro j1 fto_1 hm1 hj1 hst1 H locs ls hW hl
      refine lv_iload_n (pc := 2) hx hb dX9_lookAtLines_2 rfl (lv_at hl 0 rfl) ?_
      refine lv_aload_n (pc := 3) hx hb dX9_lookAtLines_3 rfl (lv_at hl 1 rfl) ?_
      refine r_get X hW 0 ciX9 2 rfl (by decide) m_216 rfl rfl dX9_lookAtLines_4 ?_
      refine r_alen (v := 6) X hW 1 3 rfl rfl rfl dX9_lookAtLines_7 ?_
      refine lv_icmp_ge (tgt := 24) (pc := 8) hx hb dX9_lookAtLines_8 rfl (fun c1 => ?_) (fun c1 => ?_)
      · have h2 : 6 ≤ j1 := (nI_leI (a := 6) (b := j1) (by omega) (by omega)).mp c1
        have hN1 : j1 = 6 := by omega
        rw [hN1] at hst1
        subst hst1
        have hW : WD g A s _ _ [(t9, .inr (9, [.ref tn, .ref tx, .ref to])), (to, .inl (g.2.1 3, 6, .inl (L1_X9_lookAtLines fo 6))), (v, .inr (10, [.int pe, .int (nI lc), .int de, .ref v3, .ref v4, .ref v5, .ref v6, .ref v7, .ref v8, .ref v9, .ref v10, .ref v11, .ref v12, .ref v13, .int gl, .ref v15])), (v9, .inl (g.2.1 1, 72, .inl L))] := hW
        refine lv_iconst (v := 0) (pc := 24) hx hb dX9_lookAtLines_24 (by decide) ?_
        refine lv_istore_n (lv' := [(3, .int 0), (0, .ref t9), (1, .ref v), (2, .int h)]) (pc := 25) hx hb dX9_lookAtLines_25 rfl hl (by decide) rfl (fun ls hl => ?_)
        have loop2 : ∀ (fu2 : Nat) (j2 : Nat) (fto_2 : Nat → Int32), (lc < fu2 + j2) → (j2 ≤ lc) → (fto_2 = L2_X9_lookAtLines L h (L1_X9_lookAtLines fo 6) j2) → ∀ (H : Heap) (locs : List Loc) (ls : Array Slot), WD g A s H locs [(t9, .inr (9, [.ref tn, .ref tx, .ref to])), (to, .inl (g.2.1 3, 6, .inl fto_2)), (v, .inr (10, [.int pe, .int (nI lc), .int de, .ref v3, .ref v4, .ref v5, .ref v6, .ref v7, .ref v8, .ref v9, .ref v10, .ref v11, .ref v12, .ref v13, .int gl, .ref v15])), (v9, .inl (g.2.1 1, 72, .inl L))] → lv_has ls 7 [(3, .int (nI j2)), (0, .ref t9), (1, .ref v), (2, .int h)] → W p l e (RM 3 0 0) s m args below meth c H locs 0 0 Q (F0 m 26 ls []) := by
          intro fu2
          induction fu2 with
          | zero =>
            intro j2 fto_2 hm2 hj2 hst2
            exact absurd hm2 (by omega)
          | succ fu2 ih2 =>
            intro j2 fto_2 hm2 hj2 hst2 H locs ls hW hl
            refine lv_iload_n (pc := 26) hx hb dX9_lookAtLines_26 rfl (lv_at hl 0 rfl) ?_
            refine lv_aload_n (pc := 27) hx hb dX9_lookAtLines_27 rfl (lv_at hl 2 rfl) ?_
            refine r_getN X hW 2 ciX10 1 rfl (by decide) m_282 rfl rfl dX9_lookAtLines_28 ?_
            refine lv_icmp_ge (tgt := 139) (pc := 31) hx hb dX9_lookAtLines_31 rfl (fun c3 => ?_) (fun c3 => ?_)
            · have h4 : lc ≤ j2 := (nI_leI (a := lc) (b := j2) (by omega) (by omega)).mp c3
              have hN2 : j2 = lc := by omega
              rw [hN2] at hst2
              subst hst2
              have hW : WD g A s _ _ [(t9, .inr (9, [.ref tn, .ref tx, .ref to])), (to, .inl (g.2.1 3, 6, .inl (L2_X9_lookAtLines L h (L1_X9_lookAtLines fo 6) lc))), (v, .inr (10, [.int pe, .int (nI lc), .int de, .ref v3, .ref v4, .ref v5, .ref v6, .ref v7, .ref v8, .ref v9, .ref v10, .ref v11, .ref v12, .ref v13, .int gl, .ref v15])), (v9, .inl (g.2.1 1, 72, .inl L))] := hW
              have hF : F_X9_lookAtLines fo lc L h = (L2_X9_lookAtLines L h (L1_X9_lookAtLines fo 6) lc) := show F_X9_lookAtLines fo lc L h = (L2_X9_lookAtLines L h (L1_X9_lookAtLines fo 6) lc) from rfl
              exact e_v (u := [(t9, .inr (9, [.ref tn, .ref tx, .ref to])), (to, .inl (g.2.1 3, 6, .inl (L2_X9_lookAtLines L h (L1_X9_lookAtLines fo 6) lc))), (v, .inr (10, [.int pe, .int (nI lc), .int de, .ref v3, .ref v4, .ref v5, .ref v6, .ref v7, .ref v8, .ref v9, .ref v10, .ref v11, .ref v12, .ref v13, .int gl, .ref v15])), (v9, .inl (g.2.1 1, 72, .inl L))]) X hQ hr (hW) [0, 1, 2, 3] rfl rfl (by rw [hF]) ⟨Nat.le_of_ble_eq_true rfl, Nat.le_of_ble_eq_true rfl⟩ dX9_lookAtLines_139
            · have h5 : ¬ (lc ≤ j2) := fun q => c3 ((nI_leI (a := lc) (b := j2) (by omega) (by omega)).mpr q)
              refine lv_aload_n (pc := 34) hx hb dX9_lookAtLines_34 rfl (lv_at hl 2 rfl) ?_
              refine lv_iload_n (pc := 35) hx hb dX9_lookAtLines_35 rfl (lv_at hl 0 rfl) ?_
              refine c_Vi (pc := 36) (As := [.int (nI j2)]) (rest := []) (wr := [(t9, .inr (9, [.ref tn, .ref tx, .ref to])), (to, .inl (g.2.1 3, 6, .inl fto_2))]) X hW 2 ciX10 rfl (C_X10_isOneWayG l g v v3 v4 v5 v6 v7 v8 v9 v10 v11 v12 v13 v15 pe (nI lc) de gl L j2 (by omega)) vX9_63 [2, 3] [0, 1] rfl rfl rfl rfl rfl rfl hl.1 rfl (Nat.le_of_ble_eq_true rfl) ⟨Nat.le_of_ble_eq_true rfl, Nat.le_of_ble_eq_true rfl⟩ ⟨Nat.le_of_ble_eq_true rfl, Nat.le_of_ble_eq_true rfl⟩ dX9_lookAtLines_36 (fun r6 u9 H locs hq hW => ?_)
              obtain ⟨rfl, rfl⟩ := hq
              have hW : WD g A s _ _ [(t9, .inr (9, [.ref tn, .ref tx, .ref to])), (to, .inl (g.2.1 3, 6, .inl fto_2)), (v, .inr (10, [.int pe, .int (nI lc), .int de, .ref v3, .ref v4, .ref v5, .ref v6, .ref v7, .ref v8, .ref v9, .ref v10, .ref v11, .ref v12, .ref v13, .int gl, .ref v15])), (v9, .inl (g.2.1 1, 72, .inl L))] := hW
              refine lv_if_ne (tgt := 133) (pc := 39) hx hb dX9_lookAtLines_39 rfl (fun c7 => ?_) (fun c7 => ?_)
              · refine lv_iinc (v := nI (j2 + 1)) (lv' := [(3, .int (nI (j2 + 1))), (0, .ref t9), (1, .ref v), (2, .int h)]) (pc := 133) hx hb dX9_lookAtLines_133 hl (k := 0) rfl (nI_add j2 1) (by decide) rfl (fun ls hl => ?_)
                refine lv_goto (tgt := 26) (pc := 136) hx hb dX9_lookAtLines_136 rfl ?_
                exact ih2 (j2 + 1) fto_2 (by omega) (by omega) (by rw [L2_X9_lookAtLines, ← hst2]; exact (show L2_X9_lookAtLiness L h j2 fto_2 = fto_2 from by rw [L2_X9_lookAtLiness, if_neg c7]).symm) _ _ _ hW (lv_sub hl [0, 1, 2, 3] rfl)
              · refine lv_aload_n (pc := 42) hx hb dX9_lookAtLines_42 rfl (lv_at hl 2 rfl) ?_
                refine lv_iload_n (pc := 43) hx hb dX9_lookAtLines_43 rfl (lv_at hl 0 rfl) ?_
                refine lv_iload_n (pc := 44) hx hb dX9_lookAtLines_44 rfl (lv_at hl 3 rfl) ?_
                refine c_Vi (pc := 45) (As := [.int (nI j2), .int h]) (rest := []) (wr := [(t9, .inr (9, [.ref tn, .ref tx, .ref to])), (to, .inl (g.2.1 3, 6, .inl fto_2))]) X hW 2 ciX10 rfl (K_X10_works l g v v3 v4 v5 v6 v7 v8 v9 v10 v11 v12 v13 v15 pe (nI lc) de gl L j2 h (by omega)) vX9_67 [2, 3] [0, 1] rfl rfl rfl rfl rfl rfl hl.1 rfl (Nat.le_of_ble_eq_true rfl) ⟨Nat.le_of_ble_eq_true rfl, Nat.le_of_ble_eq_true rfl⟩ ⟨Nat.le_of_ble_eq_true rfl, Nat.le_of_ble_eq_true rfl⟩ dX9_lookAtLines_45 (fun r10 u9 H locs hq hW => ?_)
                obtain ⟨rfl, rfl⟩ := hq
                have hW : WD g A s _ _ [(t9, .inr (9, [.ref tn, .ref tx, .ref to])), (to, .inl (g.2.1 3, 6, .inl fto_2)), (v, .inr (10, [.int pe, .int (nI lc), .int de, .ref v3, .ref v4, .ref v5, .ref v6, .ref v7, .ref v8, .ref v9, .ref v10, .ref v11, .ref v12, .ref v13, .int gl, .ref v15])), (v9, .inl (g.2.1 1, 72, .inl L))] := hW
                refine lv_if_ne (tgt := 54) (pc := 48) hx hb dX9_lookAtLines_48 rfl (fun c11 => ?_) (fun c11 => ?_)
                · refine lv_aload_n (pc := 54) hx hb dX9_lookAtLines_54 rfl (lv_at hl 2 rfl) ?_
                  refine lv_iload_n (pc := 55) hx hb dX9_lookAtLines_55 rfl (lv_at hl 0 rfl) ?_
                  refine c_Vi (pc := 56) (As := [.int (nI j2)]) (rest := []) (wr := [(t9, .inr (9, [.ref tn, .ref tx, .ref to])), (to, .inl (g.2.1 3, 6, .inl fto_2))]) X hW 2 ciX10 rfl (C_X10_lineAG l g v v3 v4 v5 v6 v7 v8 v9 v10 v11 v12 v13 v15 pe (nI lc) de gl L j2 (by omega)) vX9_71 [2, 3] [0, 1] rfl rfl rfl rfl rfl rfl hl.1 rfl (Nat.le_of_ble_eq_true rfl) ⟨Nat.le_of_ble_eq_true rfl, Nat.le_of_ble_eq_true rfl⟩ ⟨Nat.le_of_ble_eq_true rfl, Nat.le_of_ble_eq_true rfl⟩ dX9_lookAtLines_56 (fun r13 u9 H locs hq hW => ?_)
                  obtain ⟨rfl, rfl⟩ := hq
                  have hW : WD g A s _ _ [(t9, .inr (9, [.ref tn, .ref tx, .ref to])), (to, .inl (g.2.1 3, 6, .inl fto_2)), (v, .inr (10, [.int pe, .int (nI lc), .int de, .ref v3, .ref v4, .ref v5, .ref v6, .ref v7, .ref v8, .ref v9, .ref v10, .ref v11, .ref v12, .ref v13, .int gl, .ref v15])), (v9, .inl (g.2.1 1, 72, .inl L))] := hW
                  refine lv_aload_n (pc := 59) hx hb dX9_lookAtLines_59 rfl (lv_at hl 2 rfl) ?_
                  refine lv_iload_n (pc := 60) hx hb dX9_lookAtLines_60 rfl (lv_at hl 0 rfl) ?_
                  refine c_Vi (pc := 61) (As := [.int (nI j2)]) (rest := [.int (L (j2 * 6))]) (wr := [(t9, .inr (9, [.ref tn, .ref tx, .ref to])), (to, .inl (g.2.1 3, 6, .inl fto_2))]) X hW 2 ciX10 rfl (C_X10_lineBG l g v v3 v4 v5 v6 v7 v8 v9 v10 v11 v12 v13 v15 pe (nI lc) de gl L j2 (by omega)) vX9_74 [2, 3] [0, 1] rfl rfl rfl rfl rfl rfl hl.1 rfl (Nat.le_of_ble_eq_true rfl) ⟨Nat.le_of_ble_eq_true rfl, Nat.le_of_ble_eq_true rfl⟩ ⟨Nat.le_of_ble_eq_true rfl, Nat.le_of_ble_eq_true rfl⟩ dX9_lookAtLines_61 (fun r14 u9 H locs hq hW => ?_)
                  obtain ⟨rfl, rfl⟩ := hq
                  have hW : WD g A s _ _ [(t9, .inr (9, [.ref tn, .ref tx, .ref to])), (to, .inl (g.2.1 3, 6, .inl fto_2)), (v, .inr (10, [.int pe, .int (nI lc), .int de, .ref v3, .ref v4, .ref v5, .ref v6, .ref v7, .ref v8, .ref v9, .ref v10, .ref v11, .ref v12, .ref v13, .int gl, .ref v15])), (v9, .inl (g.2.1 1, 72, .inl L))] := hW
                  refine va_mmin (pc := 64) hx hb (X.2.2.1.trans hl.1.symm) X.2.2.2.1 (X.2.2.2.2.1 _ mm_X9_64) (X.2.2.2.2.1 _ mms_min) (X.2.2.2.2.1 _ m_19) (X.2.2.2.2.1 _ mmc_min) (Nat.le_of_ble_eq_true rfl) (Nat.le_of_ble_eq_true rfl) (Nat.le_of_ble_eq_true rfl) (Nat.le_of_ble_eq_true rfl) dX9_lookAtLines_64 ?_
                  refine lv_topi (fun v15 ev15 => ?_)
                  obtain rfl : v15 = mn2 (L (j2 * 6)) (L (j2 * 6 + 1)) := ev15.trans (rfl)
                  refine lv_istore (lv' := [(4, .int (mn2 (L (j2 * 6)) (L (j2 * 6 + 1)))), (3, .int (nI j2)), (0, .ref t9), (1, .ref v), (2, .int h)]) (pc := 67) hx hb dX9_lookAtLines_67 hl (by decide) rfl (fun ls hl => ?_)
                  refine lv_aload_n (pc := 69) hx hb dX9_lookAtLines_69 rfl (lv_at hl 3 rfl) ?_
                  refine lv_iload_n (pc := 70) hx hb dX9_lookAtLines_70 rfl (lv_at hl 1 rfl) ?_
                  refine c_Vi (pc := 71) (As := [.int (nI j2)]) (rest := []) (wr := [(t9, .inr (9, [.ref tn, .ref tx, .ref to])), (to, .inl (g.2.1 3, 6, .inl fto_2))]) X hW 2 ciX10 rfl (C_X10_lineAG l g v v3 v4 v5 v6 v7 v8 v9 v10 v11 v12 v13 v15 pe (nI lc) de gl L j2 (by omega)) vX9_71 [2, 3] [0, 1] rfl rfl rfl rfl rfl rfl hl.1 rfl (Nat.le_of_ble_eq_true rfl) ⟨Nat.le_of_ble_eq_true rfl, Nat.le_of_ble_eq_true rfl⟩ ⟨Nat.le_of_ble_eq_true rfl, Nat.le_of_ble_eq_true rfl⟩ dX9_lookAtLines_71 (fun r16 u9 H locs hq hW => ?_)
                  obtain ⟨rfl, rfl⟩ := hq
                  have hW : WD g A s _ _ [(t9, .inr (9, [.ref tn, .ref tx, .ref to])), (to, .inl (g.2.1 3, 6, .inl fto_2)), (v, .inr (10, [.int pe, .int (nI lc), .int de, .ref v3, .ref v4, .ref v5, .ref v6, .ref v7, .ref v8, .ref v9, .ref v10, .ref v11, .ref v12, .ref v13, .int gl, .ref v15])), (v9, .inl (g.2.1 1, 72, .inl L))] := hW
                  refine lv_aload_n (pc := 74) hx hb dX9_lookAtLines_74 rfl (lv_at hl 3 rfl) ?_
                  refine lv_iload_n (pc := 75) hx hb dX9_lookAtLines_75 rfl (lv_at hl 1 rfl) ?_
                  refine c_Vi (pc := 76) (As := [.int (nI j2)]) (rest := [.int (L (j2 * 6))]) (wr := [(t9, .inr (9, [.ref tn, .ref tx, .ref to])), (to, .inl (g.2.1 3, 6, .inl fto_2))]) X hW 2 ciX10 rfl (C_X10_lineBG l g v v3 v4 v5 v6 v7 v8 v9 v10 v11 v12 v13 v15 pe (nI lc) de gl L j2 (by omega)) vX9_74 [2, 3] [0, 1] rfl rfl rfl rfl rfl rfl hl.1 rfl (Nat.le_of_ble_eq_true rfl) ⟨Nat.le_of_ble_eq_true rfl, Nat.le_of_ble_eq_true rfl⟩ ⟨Nat.le_of_ble_eq_true rfl, Nat.le_of_ble_eq_true rfl⟩ dX9_lookAtLines_76 (fun r17 u9 H locs hq hW => ?_)
                  obtain ⟨rfl, rfl⟩ := hq
                  have hW : WD g A s _ _ [(t9, .inr (9, [.ref tn, .ref tx, .ref to])), (to, .inl (g.2.1 3, 6, .inl fto_2)), (v, .inr (10, [.int pe, .int (nI lc), .int de, .ref v3, .ref v4, .ref v5, .ref v6, .ref v7, .ref v8, .ref v9, .ref v10, .ref v11, .ref v12, .ref v13, .int gl, .ref v15])), (v9, .inl (g.2.1 1, 72, .inl L))] := hW
                  refine va_mmax (pc := 79) hx hb (X.2.2.1.trans hl.1.symm) X.2.2.2.1 (X.2.2.2.2.1 _ mm_X9_79) (X.2.2.2.2.1 _ mms_max) (X.2.2.2.2.1 _ m_19) (X.2.2.2.2.1 _ mmc_max) (Nat.le_of_ble_eq_true rfl) (Nat.le_of_ble_eq_true rfl) (Nat.le_of_ble_eq_true rfl) (Nat.le_of_ble_eq_true rfl) dX9_lookAtLines_79 ?_
                  refine lv_topi (fun v18 ev18 => ?_)
                  obtain rfl : v18 = mx2 (L (j2 * 6)) (L (j2 * 6 + 1)) := ev18.trans (rfl)
                  refine lv_istore (lv' := [(5, .int (mx2 (L (j2 * 6)) (L (j2 * 6 + 1)))), (4, .int (mn2 (L (j2 * 6)) (L (j2 * 6 + 1)))), (3, .int (nI j2)), (0, .ref t9), (1, .ref v), (2, .int h)]) (pc := 82) hx hb dX9_lookAtLines_82 hl (by decide) rfl (fun ls hl => ?_)
                  refine lv_iconst (v := 0) (pc := 84) hx hb dX9_lookAtLines_84 (by decide) ?_
                  refine lv_istore (lv' := [(6, .int 0), (5, .int (mx2 (L (j2 * 6)) (L (j2 * 6 + 1)))), (4, .int (mn2 (L (j2 * 6)) (L (j2 * 6 + 1)))), (3, .int (nI j2)), (0, .ref t9), (1, .ref v), (2, .int h)]) (pc := 85) hx hb dX9_lookAtLines_85 hl (by decide) rfl (fun ls hl => ?_)
                  have loop3 : ∀ (fu3 : Nat) (j3 : Nat) (fto_3 : Nat → Int32), (6 < fu3 + j3) → (j3 ≤ 6) → (fto_3 = L3_X9_lookAtLines L j2 fto_2 j3) → ∀ (H : Heap) (locs : List Loc) (ls : Array Slot), WD g A s H locs [(t9, .inr (9, [.ref tn, .ref tx, .ref to])), (to, .inl (g.2.1 3, 6, .inl fto_3)), (v, .inr (10, [.int pe, .int (nI lc), .int de, .ref v3, .ref v4, .ref v5, .ref v6, .ref v7, .ref v8, .ref v9, .ref v10, .ref v11, .ref v12, .ref v13, .int gl, .ref v15])), (v9, .inl (g.2.1 1, 72, .inl L))] → lv_has ls 7 [(6, .int (nI j3)), (5, .int (mx2 (L (j2 * 6)) (L (j2 * 6 + 1)))), (4, .int (mn2 (L (j2 * 6)) (L (j2 * 6 + 1)))), (3, .int (nI j2)), (0, .ref t9), (1, .ref v), (2, .int h)] → W p l e (RM 3 0 0) s m args below meth c H locs 0 0 Q (F0 m 87 ls []) := by
                    intro fu3
                    induction fu3 with
                    | zero =>
                      intro j3 fto_3 hm3 hj3 hst3
                      exact absurd hm3 (by omega)
                    | succ fu3 ih3 =>
                      intro j3 fto_3 hm3 hj3 hst3 H locs ls hW hl
                      refine lv_iload (pc := 87) hx hb dX9_lookAtLines_87 (lv_at hl 0 rfl) ?_
                      refine lv_aload_n (pc := 89) hx hb dX9_lookAtLines_89 rfl (lv_at hl 4 rfl) ?_
                      refine r_get X hW 0 ciX9 2 rfl (by decide) m_216 rfl rfl dX9_lookAtLines_90 ?_
                      refine r_alen (v := 6) X hW 1 3 rfl rfl rfl dX9_lookAtLines_93 ?_
                      refine lv_icmp_ge (tgt := 133) (pc := 94) hx hb dX9_lookAtLines_94 rfl (fun c19 => ?_) (fun c19 => ?_)
                      · have h20 : 6 ≤ j3 := (nI_leI (a := 6) (b := j3) (by omega) (by omega)).mp c19
                        have hN3 : j3 = 6 := by omega
                        rw [hN3] at hst3
                        subst hst3
                        have hW : WD g A s _ _ [(t9, .inr (9, [.ref tn, .ref tx, .ref to])), (to, .inl (g.2.1 3, 6, .inl (L3_X9_lookAtLines L j2 fto_2 6))), (v, .inr (10, [.int pe, .int (nI lc), .int de, .ref v3, .ref v4, .ref v5, .ref v6, .ref v7, .ref v8, .ref v9, .ref v10, .ref v11, .ref v12, .ref v13, .int gl, .ref v15])), (v9, .inl (g.2.1 1, 72, .inl L))] := hW
                        refine lv_iinc (v := nI (j2 + 1)) (lv' := [(3, .int (nI (j2 + 1))), (6, .int (nI j3)), (5, .int (mx2 (L (j2 * 6)) (L (j2 * 6 + 1)))), (4, .int (mn2 (L (j2 * 6)) (L (j2 * 6 + 1)))), (0, .ref t9), (1, .ref v), (2, .int h)]) (pc := 133) hx hb dX9_lookAtLines_133 hl (k := 3) rfl (nI_add j2 1) (by decide) rfl (fun ls hl => ?_)
                        refine lv_goto (tgt := 26) (pc := 136) hx hb dX9_lookAtLines_136 rfl ?_
                        exact ih2 (j2 + 1) (L3_X9_lookAtLines L j2 fto_2 6) (by omega) (by omega) (by rw [L2_X9_lookAtLines, ← hst2]; exact (show L2_X9_lookAtLiness L h j2 fto_2 = (L3_X9_lookAtLines L j2 fto_2 6) from by rw [L2_X9_lookAtLiness, if_pos c7, if_neg c11]).symm) _ _ _ hW (lv_sub hl [0, 4, 5, 6] rfl)
                      · have h21 : ¬ (6 ≤ j3) := fun q => c19 ((nI_leI (a := 6) (b := j3) (by omega) (by omega)).mpr q)
                        refine va_gets (pc := 97) hx hb X.2.2.2.2.2.2.1.1.1 hW.2.2 X.2.2.2.1 (X.2.2.2.2.1 _ m_212) (fun _ h9 => h9) dX9_lookAtLines_97 ?_
                        refine lv_iload (pc := 100) hx hb dX9_lookAtLines_100 (lv_at hl 0 rfl) ?_
                        refine va_ti (pc := 102) hx hb X.2.2.2.2.2.2.1.1.2 hW.2.2 (vp_in_nI (by omega) (by decide)) (fCA_at j3 (by omega)) dX9_lookAtLines_102 ?_
                        refine lv_iload (pc := 103) hx hb dX9_lookAtLines_103 (lv_at hl 2 rfl) ?_
                        refine lv_icmp_ne (tgt := 127) (pc := 105) hx hb dX9_lookAtLines_105 rfl (fun c22 => ?_) (fun c22 => ?_)
                        · refine lv_iinc (v := nI (j3 + 1)) (lv' := [(6, .int (nI (j3 + 1))), (5, .int (mx2 (L (j2 * 6)) (L (j2 * 6 + 1)))), (4, .int (mn2 (L (j2 * 6)) (L (j2 * 6 + 1)))), (3, .int (nI j2)), (0, .ref t9), (1, .ref v), (2, .int h)]) (pc := 127) hx hb dX9_lookAtLines_127 hl (k := 0) rfl (nI_add j3 1) (by decide) rfl (fun ls hl => ?_)
                          refine lv_goto (tgt := 87) (pc := 130) hx hb dX9_lookAtLines_130 rfl ?_
                          exact ih3 (j3 + 1) fto_3 (by omega) (by omega) (by rw [L3_X9_lookAtLines, ← hst3]; exact (show L3_X9_lookAtLiness L j2 j3 fto_3 = fto_3 from by rw [L3_X9_lookAtLiness, if_neg c22]).symm) _ _ _ hW (lv_sub hl [0, 1, 2, 3, 4, 5, 6] rfl)
                        · refine va_gets (pc := 108) hx hb X.2.2.2.2.2.2.1.2.1 hW.2.2 X.2.2.2.1 (X.2.2.2.2.1 _ m_955) (fun _ h9 => h9) dX9_lookAtLines_108 ?_
                          refine lv_iload (pc := 111) hx hb dX9_lookAtLines_111 (lv_at hl 0 rfl) ?_
                          refine va_ti (pc := 113) hx hb X.2.2.2.2.2.2.1.2.2 hW.2.2 (vp_in_nI (by omega) (by decide)) (fCB_at j3 (by omega)) dX9_lookAtLines_113 ?_
                          refine lv_iload (pc := 114) hx hb dX9_lookAtLines_114 (lv_at hl 1 rfl) ?_
                          refine lv_icmp_ne (tgt := 127) (pc := 116) hx hb dX9_lookAtLines_116 rfl (fun c25 => ?_) (fun c25 => ?_)
                          · refine lv_iinc (v := nI (j3 + 1)) (lv' := [(6, .int (nI (j3 + 1))), (5, .int (mx2 (L (j2 * 6)) (L (j2 * 6 + 1)))), (4, .int (mn2 (L (j2 * 6)) (L (j2 * 6 + 1)))), (3, .int (nI j2)), (0, .ref t9), (1, .ref v), (2, .int h)]) (pc := 127) hx hb dX9_lookAtLines_127 hl (k := 0) rfl (nI_add j3 1) (by decide) rfl (fun ls hl => ?_)
                            refine lv_goto (tgt := 87) (pc := 130) hx hb dX9_lookAtLines_130 rfl ?_
                            exact ih3 (j3 + 1) fto_3 (by omega) (by omega) (by rw [L3_X9_lookAtLines, ← hst3]; exact (show L3_X9_lookAtLiness L j2 j3 fto_3 = fto_3 from by rw [L3_X9_lookAtLiness, if_pos c22, if_neg c25]).symm) _ _ _ hW (lv_sub hl [0, 1, 2, 3, 4, 5, 6] rfl)
                          · refine lv_aload_n (pc := 119) hx hb dX9_lookAtLines_119 rfl (lv_at hl 4 rfl) ?_
                            refine r_get X hW 0 ciX9 2 rfl (by decide) m_216 rfl rfl dX9_lookAtLines_120 ?_
                            refine lv_iload (pc := 123) hx hb dX9_lookAtLines_123 (lv_at hl 0 rfl) ?_
                            refine lv_iconst (v := 1) (pc := 125) hx hb dX9_lookAtLines_125 (by decide) ?_
                            refine r_zast (ws' := [(t9, .inr (9, [.ref tn, .ref tx, .ref to])), (to, .inl (g.2.1 3, 6, .inl (upd fto_3 j3 (1 : Int32)))), (v, .inr (10, [.int pe, .int (nI lc), .int de, .ref v3, .ref v4, .ref v5, .ref v6, .ref v7, .ref v8, .ref v9, .ref v10, .ref v11, .ref v12, .ref v13, .int gl, .ref v15])), (v9, .inl (g.2.1 1, 72, .inl L))]) X hW 1 rfl (vp_in_nI (by omega) (by decide)) (f' := (upd fto_3 j3 (1 : Int32))) (by rw [nI_clamp (by omega), show vp_nar .boolean (1 : Int32) = (1 : Int32) from by decide]) rfl dX9_lookAtLines_126 (fun H locs hW => ?_)
                            refine lv_iinc (v := nI (j3 + 1)) (lv' := [(6, .int (nI (j3 + 1))), (5, .int (mx2 (L (j2 * 6)) (L (j2 * 6 + 1)))), (4, .int (mn2 (L (j2 * 6)) (L (j2 * 6 + 1)))), (3, .int (nI j2)), (0, .ref t9), (1, .ref v), (2, .int h)]) (pc := 127) hx hb dX9_lookAtLines_127 hl (k := 0) rfl (nI_add j3 1) (by decide) rfl (fun ls hl => ?_)
                            refine lv_goto (tgt := 87) (pc := 130) hx hb dX9_lookAtLines_130 rfl ?_
                            exact ih3 (j3 + 1) (upd fto_3 j3 (1 : Int32)) (by omega) (by omega) (by rw [L3_X9_lookAtLines, ← hst3]; exact (show L3_X9_lookAtLiness L j2 j3 fto_3 = (upd fto_3 j3 (1 : Int32)) from by rw [L3_X9_lookAtLiness, if_pos c22, if_pos c25]).symm) _ _ _ hW (lv_sub hl [0, 1, 2, 3, 4, 5, 6] rfl)
                  exact loop3 (6 + 1) 0 fto_2 (by omega) (by omega) rfl _ _ _ hW (lv_sub hl [0, 1, 2, 3, 4, 5, 6] rfl)
                · refine lv_goto (tgt := 133) (pc := 51) hx hb dX9_lookAtLines_51 rfl ?_
                  refine lv_iinc (v := nI (j2 + 1)) (lv' := [(3, .int (nI (j2 + 1))), (0, .ref t9), (1, .ref v), (2, .int h)]) (pc := 133) hx hb dX9_lookAtLines_133 hl (k := 0) rfl (nI_add j2 1) (by decide) rfl (fun ls hl => ?_)
                  refine lv_goto (tgt := 26) (pc := 136) hx hb dX9_lookAtLines_136 rfl ?_
                  exact ih2 (j2 + 1) fto_2 (by omega) (by omega) (by rw [L2_X9_lookAtLines, ← hst2]; exact (show L2_X9_lookAtLiness L h j2 fto_2 = fto_2 from by rw [L2_X9_lookAtLiness, if_pos c7, if_pos c11]).symm) _ _ _ hW (lv_sub hl [0, 1, 2, 3] rfl)
        exact loop2 (lc + 1) 0 (L1_X9_lookAtLines fo 6) (by omega) (by omega) rfl _ _ _ hW (lv_sub hl [0, 1, 2, 3] rfl)
      · have h29 : ¬ (6 ≤ j1) := fun q => c1 ((nI_leI (a := 6) (b := j1) (by omega) (by omega)).mpr q)
        refine lv_aload_n (pc := 11) hx hb dX9_lookAtLines_11 rfl (lv_at hl 1 rfl) ?_
        refine r_get X hW 0 ciX9 2 rfl (by decide) m_216 rfl rfl dX9_lookAtLines_12 ?_
        refine lv_iload_n (pc := 15) hx hb dX9_lookAtLines_15 rfl (lv_at hl 0 rfl) ?_
        refine lv_iconst (v := 0) (pc := 16) hx hb dX9_lookAtLines_16 (by decide) ?_
        refine r_zast (ws' := [(t9, .inr (9, [.ref tn, .ref tx, .ref to])), (to, .inl (g.2.1 3, 6, .inl (upd fto_1 j1 (0 : Int32)))), (v, .inr (10, [.int pe, .int (nI lc), .int de, .ref v3, .ref v4, .ref v5, .ref v6, .ref v7, .ref v8, .ref v9, .ref v10, .ref v11, .ref v12, .ref v13, .int gl, .ref v15])), (v9, .inl (g.2.1 1, 72, .inl L))]) X hW 1 rfl (vp_in_nI (by omega) (by decide)) (f' := (upd fto_1 j1 (0 : Int32))) (by rw [nI_clamp (by omega), show vp_nar .boolean (0 : Int32) = (0 : Int32) from by decide]) rfl dX9_lookAtLines_17 (fun H locs hW => ?_)
        refine lv_iinc (v := nI (j1 + 1)) (lv' := [(3, .int (nI (j1 + 1))), (0, .ref t9), (1, .ref v), (2, .int h)]) (pc := 18) hx hb dX9_lookAtLines_18 hl (k := 0) rfl (nI_add j1 1) (by decide) rfl (fun ls hl => ?_)
        refine lv_goto (tgt := 2) (pc := 21) hx hb dX9_lookAtLines_21 rfl ?_
        exact ih1 (j1 + 1) (upd fto_1 j1 (0 : Int32)) (by omega) (by omega) (by rw [L1_X9_lookAtLines, ← hst1]; exact (show L1_X9_lookAtLiness  j1 fto_1 = (upd fto_1 j1 (0 : Int32)) from rfl).symm) _ _ _ hW (lv_sub hl [0, 1, 2, 3] rfl)
  exact loop1 (6 + 1) 0 fo (by omega) (by omega) rfl _ _ _ hW (lv_sub hl [0, 1, 2, 3] rfl)

def L1_X9_goals (pe : Nat) (j1 : Nat) (x1_1 : Int32) : Int32 := x1_1 ||| ((evy (nI pe)) <<< ((nI (4 * j1)) &&& 31))
def L1_X9_goal (pe : Nat) (i0_ : Int32) : Nat → Int32
  | 0 => (i0_)
  | k_ + 1 => L1_X9_goals pe k_ (L1_X9_goal pe i0_ k_)
def F_X9_goal (pe : Nat) : Int32 := (L1_X9_goal pe (33825 : Int32) pe)
set_option maxHeartbeats 4000000 in
set_option maxRecDepth 100000 in
theorem K_X9_goal (l : Launch) (g : GG) (v : Nat) (v3 : Nat) (v4 : Nat) (v5 : Nat) (v6 : Nat) (v7 : Nat) (v8 : Nat) (v9 : Nat) (v10 : Nat) (v11 : Nat) (v12 : Nat) (v13 : Nat) (v15 : Nat) (pe : Nat) (lc : Int32) (de : Int32) (gl : Int32) (hpe : pe ≤ 4) : MetI l g yX9_goal cX9_goal 3 (some .int) 1 0 0 [.ref v] [(v, .inr (10, [.int (nI pe), .int lc, .int de, .ref v3, .ref v4, .ref v5, .ref v6, .ref v7, .ref v8, .ref v9, .ref v10, .ref v11, .ref v12, .ref v13, .int gl, .ref v15]))] (fun r u => r = (F_X9_goal pe) ∧ u = [(v, .inr (10, [.int (nI pe), .int lc, .int de, .ref v3, .ref v4, .ref v5, .ref v6, .ref v7, .ref v8, .ref v9, .ref v10, .ref v11, .ref v12, .ref v13, .int gl, .ref v15]))]) := by
  refine MetI.of (own := RX9) rfl (by decide) (Nat.le_of_ble_eq_true rfl) ?_
  intro p e s m below meth c A ls args Q hQ X hr hin hW hl
  have hx := X.1
  have hb := X.2.1
  have hl : lv_has ls 3 [(0, .ref v)] := hl
  refine lv_ldc (pc := 0) hx hb X.2.2.2.1 (X.2.2.2.2.1 _ m_939) dX9_goal_0 ?_
  refine lv_istore_n (lv' := [(1, .int 33825), (0, .ref v)]) (pc := 2) hx hb dX9_goal_2 rfl hl (by decide) rfl (fun ls hl => ?_)
  refine lv_iconst (v := 0) (pc := 3) hx hb dX9_goal_3 (by decide) ?_
  refine lv_istore_n (lv' := [(2, .int 0), (1, .int 33825), (0, .ref v)]) (pc := 4) hx hb dX9_goal_4 rfl hl (by decide) rfl (fun ls hl => ?_)
  have loop1 : ∀ (fu1 : Nat) (j1 : Nat) (x1_1 : Int32), (pe < fu1 + j1) → (j1 ≤ pe) → (x1_1 = L1_X9_goal pe (33825 : Int32) j1) → ∀ (H : Heap) (locs : List Loc) (ls : Array Slot), WD g A s H locs [(v, .inr (10, [.int (nI pe), .int lc, .int de, .ref v3, .ref v4, .ref v5, .ref v6, .ref v7, .ref v8, .ref v9, .ref v10, .ref v11, .ref v12, .ref v13, .int gl, .ref v15]))] → lv_has ls 3 [(2, .int (nI j1)), (1, .int x1_1), (0, .ref v)] → W p l e (RM 1 0 0) s m args below meth c H locs 0 0 Q (F0 m 5 ls []) := by
    intro fu1
    induction fu1 with
    | zero =>
      intro j1 x1_1 hm1 hj1 hst1
      exact absurd hm1 (by omega)
    | succ fu1 ih1 =>
      intro j1 x1_1 hm1 hj1 hst1 H locs ls hW hl
      refine lv_iload_n (pc := 5) hx hb dX9_goal_5 rfl (lv_at hl 0 rfl) ?_
      refine lv_aload_n (pc := 6) hx hb dX9_goal_6 rfl (lv_at hl 2 rfl) ?_
      refine r_getN X hW 0 ciX10 0 rfl (by decide) m_277 rfl rfl dX9_goal_7 ?_
      refine lv_icmp_ge (tgt := 35) (pc := 10) hx hb dX9_goal_10 rfl (fun c1 => ?_) (fun c1 => ?_)
      · have h2 : pe ≤ j1 := (nI_leI (a := pe) (b := j1) (by omega) (by omega)).mp c1
        have hN1 : j1 = pe := by omega
        rw [hN1] at hst1
        subst hst1
        have hW : WD g A s _ _ [(v, .inr (10, [.int (nI pe), .int lc, .int de, .ref v3, .ref v4, .ref v5, .ref v6, .ref v7, .ref v8, .ref v9, .ref v10, .ref v11, .ref v12, .ref v13, .int gl, .ref v15]))] := hW
        refine lv_iload_n (pc := 35) hx hb dX9_goal_35 rfl (lv_at hl 1 rfl) ?_
        have hF : F_X9_goal pe = (L1_X9_goal pe (33825 : Int32) pe) := show F_X9_goal pe = (L1_X9_goal pe (33825 : Int32) pe) from rfl
        exact e_i (u := [(v, .inr (10, [.int (nI pe), .int lc, .int de, .ref v3, .ref v4, .ref v5, .ref v6, .ref v7, .ref v8, .ref v9, .ref v10, .ref v11, .ref v12, .ref v13, .int gl, .ref v15]))]) X hQ hr (hW) [0] rfl rfl (⟨hF.symm, rfl⟩) ⟨Nat.le_of_ble_eq_true rfl, Nat.le_of_ble_eq_true rfl⟩ dX9_goal_36
      · have h3 : ¬ (pe ≤ j1) := fun q => c1 ((nI_leI (a := pe) (b := j1) (by omega) (by omega)).mpr q)
        refine lv_iload_n (pc := 13) hx hb dX9_goal_13 rfl (lv_at hl 0 rfl) ?_
        refine lv_iconst (v := 4) (pc := 14) hx hb dX9_goal_14 (by decide) ?_
        refine lv_icmp_ge (tgt := 35) (pc := 15) hx hb dX9_goal_15 rfl (fun c4 => absurd c4 (fun q => absurd ((nI_leI (a := 4) (b := j1) (by omega) (by omega)).mp q) (by omega))) (fun c4 => ?_)
        refine lv_iload_n (pc := 18) hx hb dX9_goal_18 rfl (lv_at hl 1 rfl) ?_
        refine lv_aload_n (pc := 19) hx hb dX9_goal_19 rfl (lv_at hl 2 rfl) ?_
        refine c_Vi (pc := 20) (As := []) (rest := [.int x1_1]) (wr := []) X hW 0 ciX10 rfl (C_X10_everyoneG l g v v3 v4 v5 v6 v7 v8 v9 v10 v11 v12 v13 v15 (nI pe) lc de gl) vX9_98 [0] [] rfl rfl rfl rfl rfl rfl hl.1 rfl (Nat.le_of_ble_eq_true rfl) ⟨Nat.le_of_ble_eq_true rfl, Nat.le_of_ble_eq_true rfl⟩ ⟨Nat.le_of_ble_eq_true rfl, Nat.le_of_ble_eq_true rfl⟩ dX9_goal_20 (fun r5 u9 H locs hq hW => ?_)
        obtain ⟨rfl, rfl⟩ := hq
        have hW : WD g A s _ _ [(v, .inr (10, [.int (nI pe), .int lc, .int de, .ref v3, .ref v4, .ref v5, .ref v6, .ref v7, .ref v8, .ref v9, .ref v10, .ref v11, .ref v12, .ref v13, .int gl, .ref v15]))] := hW
        refine lv_iconst (v := 4) (pc := 23) hx hb dX9_goal_23 (by decide) ?_
        refine lv_iload_n (pc := 24) hx hb dX9_goal_24 rfl (lv_at hl 0 rfl) ?_
        refine lv_imul (pc := 25) hx hb dX9_goal_25 ?_
        refine lv_topi (fun v6 ev6 => ?_)
        obtain rfl : v6 = nI (4 * j1) := ev6.trans (pk_mul 4 j1)
        refine lv_ishl (pc := 26) hx hb dX9_goal_26 ?_
        refine lv_ior (pc := 27) hx hb dX9_goal_27 ?_
        refine lv_istore_n (lv' := [(1, .int (x1_1 ||| ((evy (nI pe)) <<< ((nI (4 * j1)) &&& 31)))), (2, .int (nI j1)), (0, .ref v)]) (pc := 28) hx hb dX9_goal_28 rfl hl (by decide) rfl (fun ls hl => ?_)
        refine lv_iinc (v := nI (j1 + 1)) (lv' := [(2, .int (nI (j1 + 1))), (1, .int (x1_1 ||| ((evy (nI pe)) <<< ((nI (4 * j1)) &&& 31)))), (0, .ref v)]) (pc := 29) hx hb dX9_goal_29 hl (k := 1) rfl (nI_add j1 1) (by decide) rfl (fun ls hl => ?_)
        refine lv_goto (tgt := 5) (pc := 32) hx hb dX9_goal_32 rfl ?_
        exact ih1 (j1 + 1) (x1_1 ||| ((evy (nI pe)) <<< ((nI (4 * j1)) &&& 31))) (by omega) (by omega) (by rw [L1_X9_goal, ← hst1]; exact (show L1_X9_goals pe j1 x1_1 = x1_1 ||| ((evy (nI pe)) <<< ((nI (4 * j1)) &&& 31)) from rfl).symm) _ _ _ hW (lv_sub hl [0, 1, 2] rfl)
  exact loop1 (pe + 1) 0 (33825 : Int32) (by omega) (by omega) rfl _ _ _ hW (lv_sub hl [0, 1, 2] rfl)

def L2_X9_fewestCallss (lc : Nat) (L : Nat → Int32) (j1 : Nat) (ft9q0_1 : Nat → Int32) (fto_1 : Nat → Int32) (j2 : Nat) (ft9q1_2 : Nat → Int32) : (Nat → Int32) := if 1000 ≤ ft9q0_1 j2 then (ft9q1_2) else ((F_X9_goOn ft9q1_2 (F_X9_lookAtLines fto_1 lc L (nI (j1 + 1))) (F_X9_stateAt (nI j2)) (ft9q0_1 j2)))
def L2_X9_fewestCalls (lc : Nat) (L : Nat → Int32) (j1 : Nat) (ft9q0_1 : Nat → Int32) (fto_1 : Nat → Int32) (i0_ : Nat → Int32) : Nat → (Nat → Int32)
  | 0 => (i0_)
  | k_ + 1 => L2_X9_fewestCallss lc L j1 ft9q0_1 fto_1 k_ (L2_X9_fewestCalls lc L j1 ft9q0_1 fto_1 i0_ k_)
def L1_X9_fewestCalls (pe : Nat) (lc : Nat) (L : Nat → Int32) (n : Nat) : Nat → Nat → (Nat → Int32) → (Nat → Int32) → (Nat → Int32) → Nat → Nat → Int32 × Nat × Nat × (Nat → Int32) × (Nat → Int32) × (Nat → Int32)
  | 0, _, _, _, _, _, _ => (0, 0, 0, fun _ => 0, fun _ => 0, fun _ => 0)
  | m_ + 1, j1, ft9q0_1, ft9q1_1, fto_1, p0_1, p1_1 => if nI n < nI (j1 + 1) then (if 1000 ≤ ft9q0_1 (tN (F_X9_placeOf (F_X9_goal pe))) then (((-1 : Int32), p0_1, p1_1, ft9q0_1, ft9q1_1, fto_1)) else ((ft9q0_1 (tN (F_X9_placeOf (F_X9_goal pe))), p0_1, p1_1, ft9q0_1, ft9q1_1, fto_1))) else (L1_X9_fewestCalls pe lc L n m_ (j1 + 1) (L2_X9_fewestCalls lc L j1 ft9q0_1 fto_1 (va_cpy ft9q0_1 ft9q1_1 0 0 4096) 4096) ft9q0_1 (F_X9_lookAtLines fto_1 lc L (nI (j1 + 1))) p1_1 p0_1)
def F_X9_fewestCalls (tn : Nat) (tx : Nat) (fx : Nat → Int32) (fo : Nat → Int32) (pe : Nat) (lc : Nat) (L : Nat → Int32) (n : Nat) : Int32 × Nat × Nat × (Nat → Int32) × (Nat → Int32) × (Nat → Int32) := L1_X9_fewestCalls pe lc L n (n + 1) 0 (upd (fun _ => 1000) (tN (F_X9_placeOf (33825 : Int32))) (0 : Int32)) fx fo tn tx
set_option maxHeartbeats 4000000 in
set_option maxRecDepth 100000 in
theorem K_X9_fewestCalls (l : Launch) (g : GG) (t9 : Nat) (tn : Nat) (tx : Nat) (to : Nat) (fn : Nat → Int32) (fx : Nat → Int32) (fo : Nat → Int32) (v : Nat) (v3 : Nat) (v4 : Nat) (v5 : Nat) (v6 : Nat) (v7 : Nat) (v8 : Nat) (v9 : Nat) (v10 : Nat) (v11 : Nat) (v12 : Nat) (v13 : Nat) (v15 : Nat) (pe : Nat) (lc : Nat) (de : Int32) (gl : Int32) (L : Nat → Int32) (n : Nat) (hlc : lc ≤ 12) (hpe : pe ≤ 4) (hn : n ≤ 8) : MetI l g yX9_fewestCalls cX9_fewestCalls 5 (some .int) 4 0 0 [.ref t9, .ref v, .int (nI n)] [(t9, .inr (9, [.ref tn, .ref tx, .ref to])), (tn, .inl (g.2.1 1, 4096, .inl fn)), (tx, .inl (g.2.1 1, 4096, .inl fx)), (to, .inl (g.2.1 3, 6, .inl fo)), (v, .inr (10, [.int (nI pe), .int (nI lc), .int de, .ref v3, .ref v4, .ref v5, .ref v6, .ref v7, .ref v8, .ref v9, .ref v10, .ref v11, .ref v12, .ref v13, .int gl, .ref v15])), (v9, .inl (g.2.1 1, 72, .inl L))] (fun r u => r = (F_X9_fewestCalls tn tx fx fo pe lc L n).1 ∧ u = [(t9, .inr (9, [.ref ((F_X9_fewestCalls tn tx fx fo pe lc L n).2.1), .ref ((F_X9_fewestCalls tn tx fx fo pe lc L n).2.2.1), .ref to])), ((F_X9_fewestCalls tn tx fx fo pe lc L n).2.1, .inl (g.2.1 1, 4096, .inl ((F_X9_fewestCalls tn tx fx fo pe lc L n).2.2.2.1))), ((F_X9_fewestCalls tn tx fx fo pe lc L n).2.2.1, .inl (g.2.1 1, 4096, .inl ((F_X9_fewestCalls tn tx fx fo pe lc L n).2.2.2.2.1))), (to, .inl (g.2.1 3, 6, .inl ((F_X9_fewestCalls tn tx fx fo pe lc L n).2.2.2.2.2))), (v, .inr (10, [.int (nI pe), .int (nI lc), .int de, .ref v3, .ref v4, .ref v5, .ref v6, .ref v7, .ref v8, .ref v9, .ref v10, .ref v11, .ref v12, .ref v13, .int gl, .ref v15])), (v9, .inl (g.2.1 1, 72, .inl L))]) := by
  refine MetI.of (own := RX9) rfl (by decide) (Nat.le_of_ble_eq_true rfl) ?_
  intro p e s m below meth c A ls args Q hQ X hr hin hW hl
  have hx := X.1
  have hb := X.2.1
  have hl : lv_has ls 5 [(0, .ref t9), (1, .ref v), (2, .int (nI n))] := hl
  refine lv_aload_n (pc := 0) hx hb dX9_fewestCalls_0 rfl (lv_at hl 0 rfl) ?_
  refine r_get X hW 0 ciX9 0 rfl (by decide) m_214 rfl rfl dX9_fewestCalls_1 ?_
  refine lv_sipush (v := 1000) (pc := 4) hx hb dX9_fewestCalls_4 (by decide) ?_
  refine c_Sv (pc := 7) (As := [.ref tn, .int 1000]) (rest := []) (wr := [(t9, .inr (9, [.ref tn, .ref tx, .ref to])), (tx, .inl (g.2.1 1, 4096, .inl fx)), (to, .inl (g.2.1 3, 6, .inl fo)), (v, .inr (10, [.int (nI pe), .int (nI lc), .int de, .ref v3, .ref v4, .ref v5, .ref v6, .ref v7, .ref v8, .ref v9, .ref v10, .ref v11, .ref v12, .ref v13, .int gl, .ref v15])), (v9, .inl (g.2.1 1, 72, .inl L))]) X hW (C_J7_fillE l g tn 4096 fn 1000 (by decide)) vX9_25 [1] [0, 2, 3, 4, 5] rfl rfl rfl rfl rfl rfl hl.1 rfl (Nat.le_of_ble_eq_true rfl) ⟨Nat.le_of_ble_eq_true rfl, Nat.le_of_ble_eq_true rfl⟩ ⟨Nat.le_of_ble_eq_true rfl, Nat.le_of_ble_eq_true rfl⟩ dX9_fewestCalls_7 (fun u9 H locs hq hW => ?_)
  obtain rfl := hq
  have hW : WD g A s _ _ [(t9, .inr (9, [.ref tn, .ref tx, .ref to])), (tx, .inl (g.2.1 1, 4096, .inl fx)), (to, .inl (g.2.1 3, 6, .inl fo)), (v, .inr (10, [.int (nI pe), .int (nI lc), .int de, .ref v3, .ref v4, .ref v5, .ref v6, .ref v7, .ref v8, .ref v9, .ref v10, .ref v11, .ref v12, .ref v13, .int gl, .ref v15])), (v9, .inl (g.2.1 1, 72, .inl L)), (tn, .inl (g.2.1 1, 4096, .inl (fun _ => 1000)))] := hW
  refine lv_aload_n (pc := 10) hx hb dX9_fewestCalls_10 rfl (lv_at hl 0 rfl) ?_
  refine r_get X hW 0 ciX9 0 rfl (by decide) m_214 rfl rfl dX9_fewestCalls_11 ?_
  refine lv_ldc (pc := 14) hx hb X.2.2.2.1 (X.2.2.2.2.1 _ m_939) dX9_fewestCalls_14 ?_
  refine c_Si (pc := 16) (As := [.int 33825]) (rest := [.ref tn]) (wr := [(t9, .inr (9, [.ref tn, .ref tx, .ref to])), (tx, .inl (g.2.1 1, 4096, .inl fx)), (to, .inl (g.2.1 3, 6, .inl fo)), (v, .inr (10, [.int (nI pe), .int (nI lc), .int de, .ref v3, .ref v4, .ref v5, .ref v6, .ref v7, .ref v8, .ref v9, .ref v10, .ref v11, .ref v12, .ref v13, .int gl, .ref v15])), (v9, .inl (g.2.1 1, 72, .inl L)), (tn, .inl (g.2.1 1, 4096, .inl (fun _ => 1000)))]) X hW (K_X9_placeOf l g (33825 : Int32)) vX9_32 [] [0, 1, 2, 3, 4, 5] rfl rfl rfl rfl rfl rfl hl.1 rfl (Nat.le_of_ble_eq_true rfl) ⟨Nat.le_of_ble_eq_true rfl, Nat.le_of_ble_eq_true rfl⟩ ⟨Nat.le_of_ble_eq_true rfl, Nat.le_of_ble_eq_true rfl⟩ dX9_fewestCalls_16 (fun r1 u9 H locs hq hW => ?_)
  obtain ⟨rfl, rfl⟩ := hq
  have hW : WD g A s _ _ [(t9, .inr (9, [.ref tn, .ref tx, .ref to])), (tx, .inl (g.2.1 1, 4096, .inl fx)), (to, .inl (g.2.1 3, 6, .inl fo)), (v, .inr (10, [.int (nI pe), .int (nI lc), .int de, .ref v3, .ref v4, .ref v5, .ref v6, .ref v7, .ref v8, .ref v9, .ref v10, .ref v11, .ref v12, .ref v13, .int gl, .ref v15])), (v9, .inl (g.2.1 1, 72, .inl L)), (tn, .inl (g.2.1 1, 4096, .inl (fun _ => 1000)))] := hW
  have hpl := pl9_num (x := (33825 : Int32))
  have hpl2 := hpl.2
  rw [hpl.1]
  refine lv_iconst (v := 0) (pc := 19) hx hb dX9_fewestCalls_19 (by decide) ?_
  refine r_iast (ws' := [(t9, .inr (9, [.ref tn, .ref tx, .ref to])), (tx, .inl (g.2.1 1, 4096, .inl fx)), (to, .inl (g.2.1 3, 6, .inl fo)), (v, .inr (10, [.int (nI pe), .int (nI lc), .int de, .ref v3, .ref v4, .ref v5, .ref v6, .ref v7, .ref v8, .ref v9, .ref v10, .ref v11, .ref v12, .ref v13, .int gl, .ref v15])), (v9, .inl (g.2.1 1, 72, .inl L)), (tn, .inl (g.2.1 1, 4096, .inl (upd (fun _ => 1000) (tN (F_X9_placeOf (33825 : Int32))) (0 : Int32))))]) X hW 5 rfl (vp_in_nI (by omega) (by decide)) (f' := (upd (fun _ => 1000) (tN (F_X9_placeOf (33825 : Int32))) (0 : Int32))) (by rw [nI_clamp (by omega)]) rfl dX9_fewestCalls_20 (fun H locs hW => ?_)
  refine lv_iconst (v := 1) (pc := 21) hx hb dX9_fewestCalls_21 (by decide) ?_
  refine lv_istore_n (lv' := [(3, .int 1), (0, .ref t9), (1, .ref v), (2, .int (nI n))]) (pc := 22) hx hb dX9_fewestCalls_22 rfl hl (by decide) rfl (fun ls hl => ?_)
  have loop1 : ∀ (fu1 : Nat) (j1 : Nat) (ft9q0_1 : Nat → Int32) (ft9q1_1 : Nat → Int32) (fto_1 : Nat → Int32) (p0_1 : Nat) (p1_1 : Nat), (n < fu1 + j1) → (j1 ≤ n) → (L1_X9_fewestCalls pe lc L n fu1 j1 ft9q0_1 ft9q1_1 fto_1 p0_1 p1_1 = F_X9_fewestCalls tn tx fx fo pe lc L n) → ∀ (H : Heap) (locs : List Loc) (ls : Array Slot), WD g A s H locs [(t9, .inr (9, [.ref p0_1, .ref p1_1, .ref to])), (p1_1, .inl (g.2.1 1, 4096, .inl ft9q1_1)), (to, .inl (g.2.1 3, 6, .inl fto_1)), (v, .inr (10, [.int (nI pe), .int (nI lc), .int de, .ref v3, .ref v4, .ref v5, .ref v6, .ref v7, .ref v8, .ref v9, .ref v10, .ref v11, .ref v12, .ref v13, .int gl, .ref v15])), (v9, .inl (g.2.1 1, 72, .inl L)), (p0_1, .inl (g.2.1 1, 4096, .inl ft9q0_1))] → lv_has ls 5 [(3, .int (nI (j1 + 1))), (0, .ref t9), (1, .ref v), (2, .int (nI n))] → W p l e (RM 4 0 0) s m args below meth c H locs 0 0 Q (F0 m 23 ls []) := by
    intro fu1
    induction fu1 with
    | zero =>
      intro j1 ft9q0_1 ft9q1_1 fto_1 p0_1 p1_1 hm1 hj1 hst1
      exact absurd hm1 (by omega)
    | succ fu1 ih1 =>
      intro j1 ft9q0_1 ft9q1_1 fto_1 p0_1 p1_1 hm1 hj1 hst1 H locs ls hW hl
      refine lv_iload_n (pc := 23) hx hb dX9_fewestCalls_23 rfl (lv_at hl 0 rfl) ?_
      refine lv_iload_n (pc := 24) hx hb dX9_fewestCalls_24 rfl (lv_at hl 3 rfl) ?_
      refine lv_icmp_gt (tgt := 122) (pc := 25) hx hb dX9_fewestCalls_25 rfl (fun c2 => ?_) (fun c2 => ?_)
      · have h3 : n < (j1 + 1) := (nI_ltI (a := n) (b := (j1 + 1)) (by omega) (by omega)).mp c2
        refine lv_aload_n (pc := 122) hx hb dX9_fewestCalls_122 rfl (lv_at hl 1 rfl) ?_
        refine r_get X hW 0 ciX9 0 rfl (by decide) m_214 rfl rfl dX9_fewestCalls_123 ?_
        refine lv_aload_n (pc := 126) hx hb dX9_fewestCalls_126 rfl (lv_at hl 2 rfl) ?_
        refine c_Si (pc := 127) (As := [.ref v]) (rest := [.ref p0_1]) (wr := [(t9, .inr (9, [.ref p0_1, .ref p1_1, .ref to])), (p1_1, .inl (g.2.1 1, 4096, .inl ft9q1_1)), (to, .inl (g.2.1 3, 6, .inl fto_1)), (v9, .inl (g.2.1 1, 72, .inl L)), (p0_1, .inl (g.2.1 1, 4096, .inl ft9q0_1))]) X hW (K_X9_goal l g v v3 v4 v5 v6 v7 v8 v9 v10 v11 v12 v13 v15 pe (nI lc) de gl hpe) vX9_53 [3] [0, 1, 2, 4, 5] rfl rfl rfl rfl rfl rfl hl.1 rfl (Nat.le_of_ble_eq_true rfl) ⟨Nat.le_of_ble_eq_true rfl, Nat.le_of_ble_eq_true rfl⟩ ⟨Nat.le_of_ble_eq_true rfl, Nat.le_of_ble_eq_true rfl⟩ dX9_fewestCalls_127 (fun r4 u9 H locs hq hW => ?_)
        obtain ⟨rfl, rfl⟩ := hq
        have hW : WD g A s _ _ [(t9, .inr (9, [.ref p0_1, .ref p1_1, .ref to])), (p1_1, .inl (g.2.1 1, 4096, .inl ft9q1_1)), (to, .inl (g.2.1 3, 6, .inl fto_1)), (v9, .inl (g.2.1 1, 72, .inl L)), (p0_1, .inl (g.2.1 1, 4096, .inl ft9q0_1)), (v, .inr (10, [.int (nI pe), .int (nI lc), .int de, .ref v3, .ref v4, .ref v5, .ref v6, .ref v7, .ref v8, .ref v9, .ref v10, .ref v11, .ref v12, .ref v13, .int gl, .ref v15]))] := hW
        refine c_Si (pc := 130) (As := [.int (F_X9_goal pe)]) (rest := [.ref p0_1]) (wr := [(t9, .inr (9, [.ref p0_1, .ref p1_1, .ref to])), (p1_1, .inl (g.2.1 1, 4096, .inl ft9q1_1)), (to, .inl (g.2.1 3, 6, .inl fto_1)), (v9, .inl (g.2.1 1, 72, .inl L)), (p0_1, .inl (g.2.1 1, 4096, .inl ft9q0_1)), (v, .inr (10, [.int (nI pe), .int (nI lc), .int de, .ref v3, .ref v4, .ref v5, .ref v6, .ref v7, .ref v8, .ref v9, .ref v10, .ref v11, .ref v12, .ref v13, .int gl, .ref v15]))]) X hW (K_X9_placeOf l g (F_X9_goal pe)) vX9_32 [] [0, 1, 2, 3, 4, 5] rfl rfl rfl rfl rfl rfl hl.1 rfl (Nat.le_of_ble_eq_true rfl) ⟨Nat.le_of_ble_eq_true rfl, Nat.le_of_ble_eq_true rfl⟩ ⟨Nat.le_of_ble_eq_true rfl, Nat.le_of_ble_eq_true rfl⟩ dX9_fewestCalls_130 (fun r5 u9 H locs hq hW => ?_)
        obtain ⟨rfl, rfl⟩ := hq
        have hW : WD g A s _ _ [(t9, .inr (9, [.ref p0_1, .ref p1_1, .ref to])), (p1_1, .inl (g.2.1 1, 4096, .inl ft9q1_1)), (to, .inl (g.2.1 3, 6, .inl fto_1)), (v9, .inl (g.2.1 1, 72, .inl L)), (p0_1, .inl (g.2.1 1, 4096, .inl ft9q0_1)), (v, .inr (10, [.int (nI pe), .int (nI lc), .int de, .ref v3, .ref v4, .ref v5, .ref v6, .ref v7, .ref v8, .ref v9, .ref v10, .ref v11, .ref v12, .ref v13, .int gl, .ref v15]))] := hW
        have hpl := pl9_num (x := (F_X9_goal pe))
        have hpl2 := hpl.2
        rw [hpl.1]
        refine r_iald X hW 4 rfl (vp_in_nI (by omega) (by decide)) dX9_fewestCalls_133 ?_
        refine lv_topi (fun v6 ev6 => ?_)
        obtain rfl : v6 = ft9q0_1 (tN (F_X9_placeOf (F_X9_goal pe))) := ev6.trans (by rw [nI_clamp (by omega)])
        refine lv_istore_n (lv' := [(3, .int (ft9q0_1 (tN (F_X9_placeOf (F_X9_goal pe))))), (0, .ref t9), (1, .ref v), (2, .int (nI n))]) (pc := 134) hx hb dX9_fewestCalls_134 rfl hl (by decide) rfl (fun ls hl => ?_)
        refine lv_iload_n (pc := 135) hx hb dX9_fewestCalls_135 rfl (lv_at hl 0 rfl) ?_
        refine lv_sipush (v := 1000) (pc := 136) hx hb dX9_fewestCalls_136 (by decide) ?_
        refine lv_icmp_ge (tgt := 146) (pc := 139) hx hb dX9_fewestCalls_139 rfl (fun c7 => ?_) (fun c7 => ?_)
        · refine lv_iconst (v := (-1)) (pc := 146) hx hb dX9_fewestCalls_146 (by decide) ?_
          have hF : F_X9_fewestCalls tn tx fx fo pe lc L n = ((-1 : Int32), p0_1, p1_1, ft9q0_1, ft9q1_1, fto_1) := hst1.symm.trans (show L1_X9_fewestCalls pe lc L n (fu1 + 1) j1 ft9q0_1 ft9q1_1 fto_1 p0_1 p1_1 = ((-1 : Int32), p0_1, p1_1, ft9q0_1, ft9q1_1, fto_1) from by rw [L1_X9_fewestCalls, if_pos c2, if_pos c7])
          exact e_i (u := [(t9, .inr (9, [.ref p0_1, .ref p1_1, .ref to])), (p0_1, .inl (g.2.1 1, 4096, .inl ft9q0_1)), (p1_1, .inl (g.2.1 1, 4096, .inl ft9q1_1)), (to, .inl (g.2.1 3, 6, .inl fto_1)), (v, .inr (10, [.int (nI pe), .int (nI lc), .int de, .ref v3, .ref v4, .ref v5, .ref v6, .ref v7, .ref v8, .ref v9, .ref v10, .ref v11, .ref v12, .ref v13, .int gl, .ref v15])), (v9, .inl (g.2.1 1, 72, .inl L))]) X hQ hr (hW) [0, 4, 1, 2, 5, 3] rfl rfl (⟨(congrArg Prod.fst hF).symm, by rw [hF]⟩) ⟨Nat.le_of_ble_eq_true rfl, Nat.le_of_ble_eq_true rfl⟩ dX9_fewestCalls_147
        · refine lv_iload_n (pc := 142) hx hb dX9_fewestCalls_142 rfl (lv_at hl 0 rfl) ?_
          refine lv_goto (tgt := 147) (pc := 143) hx hb dX9_fewestCalls_143 rfl ?_
          have hF : F_X9_fewestCalls tn tx fx fo pe lc L n = (ft9q0_1 (tN (F_X9_placeOf (F_X9_goal pe))), p0_1, p1_1, ft9q0_1, ft9q1_1, fto_1) := hst1.symm.trans (show L1_X9_fewestCalls pe lc L n (fu1 + 1) j1 ft9q0_1 ft9q1_1 fto_1 p0_1 p1_1 = (ft9q0_1 (tN (F_X9_placeOf (F_X9_goal pe))), p0_1, p1_1, ft9q0_1, ft9q1_1, fto_1) from by rw [L1_X9_fewestCalls, if_pos c2, if_neg c7])
          exact e_i (u := [(t9, .inr (9, [.ref p0_1, .ref p1_1, .ref to])), (p0_1, .inl (g.2.1 1, 4096, .inl ft9q0_1)), (p1_1, .inl (g.2.1 1, 4096, .inl ft9q1_1)), (to, .inl (g.2.1 3, 6, .inl fto_1)), (v, .inr (10, [.int (nI pe), .int (nI lc), .int de, .ref v3, .ref v4, .ref v5, .ref v6, .ref v7, .ref v8, .ref v9, .ref v10, .ref v11, .ref v12, .ref v13, .int gl, .ref v15])), (v9, .inl (g.2.1 1, 72, .inl L))]) X hQ hr (hW) [0, 4, 1, 2, 5, 3] rfl rfl (⟨(congrArg Prod.fst hF).symm, by rw [hF]⟩) ⟨Nat.le_of_ble_eq_true rfl, Nat.le_of_ble_eq_true rfl⟩ dX9_fewestCalls_147
      · have h10 : ¬ (n < (j1 + 1)) := fun q => c2 ((nI_ltI (a := n) (b := (j1 + 1)) (by omega) (by omega)).mpr q)
        refine lv_aload_n (pc := 28) hx hb dX9_fewestCalls_28 rfl (lv_at hl 1 rfl) ?_
        refine lv_aload_n (pc := 29) hx hb dX9_fewestCalls_29 rfl (lv_at hl 2 rfl) ?_
        refine lv_iload_n (pc := 30) hx hb dX9_fewestCalls_30 rfl (lv_at hl 0 rfl) ?_
        refine c_Vv (pc := 31) (As := [.ref v, .int (nI (j1 + 1))]) (rest := []) (wr := [(p1_1, .inl (g.2.1 1, 4096, .inl ft9q1_1)), (p0_1, .inl (g.2.1 1, 4096, .inl ft9q0_1))]) X hW 0 ciX9 rfl (K_X9_lookAtLines l g t9 p0_1 p1_1 to fto_1 v v3 v4 v5 v6 v7 v8 v9 v10 v11 v12 v13 v15 (nI pe) lc de gl L (nI (j1 + 1)) hlc) vX9_36 [0, 2, 3, 4] [1, 5] rfl rfl rfl rfl rfl rfl hl.1 rfl (Nat.le_of_ble_eq_true rfl) ⟨Nat.le_of_ble_eq_true rfl, Nat.le_of_ble_eq_true rfl⟩ ⟨Nat.le_of_ble_eq_true rfl, Nat.le_of_ble_eq_true rfl⟩ dX9_fewestCalls_31 (fun u9 H locs hq hW => ?_)
        obtain rfl := hq
        have hW : WD g A s _ _ [(p1_1, .inl (g.2.1 1, 4096, .inl ft9q1_1)), (p0_1, .inl (g.2.1 1, 4096, .inl ft9q0_1)), (t9, .inr (9, [.ref p0_1, .ref p1_1, .ref to])), (to, .inl (g.2.1 3, 6, .inl (F_X9_lookAtLines fto_1 lc L (nI (j1 + 1))))), (v, .inr (10, [.int (nI pe), .int (nI lc), .int de, .ref v3, .ref v4, .ref v5, .ref v6, .ref v7, .ref v8, .ref v9, .ref v10, .ref v11, .ref v12, .ref v13, .int gl, .ref v15])), (v9, .inl (g.2.1 1, 72, .inl L))] := hW
        refine lv_aload_n (pc := 34) hx hb dX9_fewestCalls_34 rfl (lv_at hl 1 rfl) ?_
        refine r_get X hW 2 ciX9 0 rfl (by decide) m_214 rfl rfl dX9_fewestCalls_35 ?_
        refine lv_iconst (v := 0) (pc := 38) hx hb dX9_fewestCalls_38 (by decide) ?_
        refine lv_aload_n (pc := 39) hx hb dX9_fewestCalls_39 rfl (lv_at hl 1 rfl) ?_
        refine r_get X hW 2 ciX9 1 rfl (by decide) m_215 rfl rfl dX9_fewestCalls_40 ?_
        refine lv_iconst (v := 0) (pc := 43) hx hb dX9_fewestCalls_43 (by decide) ?_
        refine lv_sipush (v := 4096) (pc := 44) hx hb dX9_fewestCalls_44 (by decide) ?_
        refine r_cpyi (ws' := [(p1_1, .inl (g.2.1 1, 4096, .inl (va_cpy ft9q0_1 ft9q1_1 0 0 4096))), (p0_1, .inl (g.2.1 1, 4096, .inl ft9q0_1)), (t9, .inr (9, [.ref p0_1, .ref p1_1, .ref to])), (to, .inl (g.2.1 3, 6, .inl (F_X9_lookAtLines fto_1 lc L (nI (j1 + 1))))), (v, .inr (10, [.int (nI pe), .int (nI lc), .int de, .ref v3, .ref v4, .ref v5, .ref v6, .ref v7, .ref v8, .ref v9, .ref v10, .ref v11, .ref v12, .ref v13, .int gl, .ref v15])), (v9, .inl (g.2.1 1, 72, .inl L))]) (n := 4096) X hW hl.1 cpy9 1 0 rfl rfl (by decide) (Nat.le_of_ble_eq_true rfl) (Nat.le_of_ble_eq_true rfl) rfl (Nat.le_of_ble_eq_true rfl) (Nat.le_of_ble_eq_true rfl) dX9_fewestCalls_47 (fun H locs hW => ?_)
        refine lv_iconst (v := 0) (pc := 50) hx hb dX9_fewestCalls_50 (by decide) ?_
        refine lv_istore (lv' := [(4, .int 0), (3, .int (nI (j1 + 1))), (0, .ref t9), (1, .ref v), (2, .int (nI n))]) (pc := 51) hx hb dX9_fewestCalls_51 hl (by decide) rfl (fun ls hl => ?_)
        have loop2 : ∀ (fu2 : Nat) (j2 : Nat) (ft9q1_2 : Nat → Int32), (4096 < fu2 + j2) → (j2 ≤ 4096) → (ft9q1_2 = L2_X9_fewestCalls lc L j1 ft9q0_1 fto_1 (va_cpy ft9q0_1 ft9q1_1 0 0 4096) j2) → ∀ (H : Heap) (locs : List Loc) (ls : Array Slot), WD g A s H locs [(p1_1, .inl (g.2.1 1, 4096, .inl ft9q1_2)), (p0_1, .inl (g.2.1 1, 4096, .inl ft9q0_1)), (t9, .inr (9, [.ref p0_1, .ref p1_1, .ref to])), (to, .inl (g.2.1 3, 6, .inl (F_X9_lookAtLines fto_1 lc L (nI (j1 + 1))))), (v, .inr (10, [.int (nI pe), .int (nI lc), .int de, .ref v3, .ref v4, .ref v5, .ref v6, .ref v7, .ref v8, .ref v9, .ref v10, .ref v11, .ref v12, .ref v13, .int gl, .ref v15])), (v9, .inl (g.2.1 1, 72, .inl L))] → lv_has ls 5 [(4, .int (nI j2)), (3, .int (nI (j1 + 1))), (0, .ref t9), (1, .ref v), (2, .int (nI n))] → W p l e (RM 4 0 0) s m args below meth c H locs 0 0 Q (F0 m 53 ls []) := by
          intro fu2
          induction fu2 with
          | zero =>
            intro j2 ft9q1_2 hm2 hj2 hst2
            exact absurd hm2 (by omega)
          | succ fu2 ih2 =>
            intro j2 ft9q1_2 hm2 hj2 hst2 H locs ls hW hl
            refine lv_iload (pc := 53) hx hb dX9_fewestCalls_53 (lv_at hl 0 rfl) ?_
            refine lv_sipush (v := 4096) (pc := 55) hx hb dX9_fewestCalls_55 (by decide) ?_
            refine lv_icmp_ge (tgt := 96) (pc := 58) hx hb dX9_fewestCalls_58 rfl (fun c11 => ?_) (fun c11 => ?_)
            · have h12 : 4096 ≤ j2 := (nI_leI (a := 4096) (b := j2) (by omega) (by omega)).mp c11
              have hN2 : j2 = 4096 := by omega
              rw [hN2] at hst2
              subst hst2
              have hW : WD g A s _ _ [(p1_1, .inl (g.2.1 1, 4096, .inl (L2_X9_fewestCalls lc L j1 ft9q0_1 fto_1 (va_cpy ft9q0_1 ft9q1_1 0 0 4096) 4096))), (p0_1, .inl (g.2.1 1, 4096, .inl ft9q0_1)), (t9, .inr (9, [.ref p0_1, .ref p1_1, .ref to])), (to, .inl (g.2.1 3, 6, .inl (F_X9_lookAtLines fto_1 lc L (nI (j1 + 1))))), (v, .inr (10, [.int (nI pe), .int (nI lc), .int de, .ref v3, .ref v4, .ref v5, .ref v6, .ref v7, .ref v8, .ref v9, .ref v10, .ref v11, .ref v12, .ref v13, .int gl, .ref v15])), (v9, .inl (g.2.1 1, 72, .inl L))] := hW
              refine lv_aload_n (pc := 96) hx hb dX9_fewestCalls_96 rfl (lv_at hl 2 rfl) ?_
              refine r_get X hW 2 ciX9 0 rfl (by decide) m_214 rfl rfl dX9_fewestCalls_97 ?_
              refine lv_astore (lv' := [(4, .ref p0_1), (3, .int (nI (j1 + 1))), (0, .ref t9), (1, .ref v), (2, .int (nI n))]) (pc := 100) hx hb dX9_fewestCalls_100 hl (by decide) rfl (fun ls hl => ?_)
              refine lv_aload_n (pc := 102) hx hb dX9_fewestCalls_102 rfl (lv_at hl 2 rfl) ?_
              refine lv_aload_n (pc := 103) hx hb dX9_fewestCalls_103 rfl (lv_at hl 2 rfl) ?_
              refine r_get X hW 2 ciX9 1 rfl (by decide) m_215 rfl rfl dX9_fewestCalls_104 ?_
              refine r_put (ws' := [(p1_1, .inl (g.2.1 1, 4096, .inl (L2_X9_fewestCalls lc L j1 ft9q0_1 fto_1 (va_cpy ft9q0_1 ft9q1_1 0 0 4096) 4096))), (p0_1, .inl (g.2.1 1, 4096, .inl ft9q0_1)), (t9, .inr (9, [.ref p1_1, .ref p1_1, .ref to])), (to, .inl (g.2.1 3, 6, .inl (F_X9_lookAtLines fto_1 lc L (nI (j1 + 1))))), (v, .inr (10, [.int (nI pe), .int (nI lc), .int de, .ref v3, .ref v4, .ref v5, .ref v6, .ref v7, .ref v8, .ref v9, .ref v10, .ref v11, .ref v12, .ref v13, .int gl, .ref v15])), (v9, .inl (g.2.1 1, 72, .inl L))]) X hW 2 ciX9 0 rfl (by decide) m_214 rfl rfl rfl rfl (Nat.le_of_ble_eq_true rfl) rfl dX9_fewestCalls_107 (fun H locs hW => ?_)
              refine lv_aload_n (pc := 110) hx hb dX9_fewestCalls_110 rfl (lv_at hl 2 rfl) ?_
              refine lv_aload (pc := 111) hx hb dX9_fewestCalls_111 (lv_at hl 0 rfl) ?_
              refine r_put (ws' := [(p1_1, .inl (g.2.1 1, 4096, .inl (L2_X9_fewestCalls lc L j1 ft9q0_1 fto_1 (va_cpy ft9q0_1 ft9q1_1 0 0 4096) 4096))), (p0_1, .inl (g.2.1 1, 4096, .inl ft9q0_1)), (t9, .inr (9, [.ref p1_1, .ref p0_1, .ref to])), (to, .inl (g.2.1 3, 6, .inl (F_X9_lookAtLines fto_1 lc L (nI (j1 + 1))))), (v, .inr (10, [.int (nI pe), .int (nI lc), .int de, .ref v3, .ref v4, .ref v5, .ref v6, .ref v7, .ref v8, .ref v9, .ref v10, .ref v11, .ref v12, .ref v13, .int gl, .ref v15])), (v9, .inl (g.2.1 1, 72, .inl L))]) X hW 2 ciX9 1 rfl (by decide) m_215 rfl rfl rfl rfl (Nat.le_of_ble_eq_true rfl) rfl dX9_fewestCalls_113 (fun H locs hW => ?_)
              refine lv_iinc (v := nI (j1 + 1 + 1)) (lv' := [(3, .int (nI (j1 + 1 + 1))), (4, .ref p0_1), (0, .ref t9), (1, .ref v), (2, .int (nI n))]) (pc := 116) hx hb dX9_fewestCalls_116 hl (k := 1) rfl (nI_add (j1 + 1) 1) (by decide) rfl (fun ls hl => ?_)
              refine lv_goto (tgt := 23) (pc := 119) hx hb dX9_fewestCalls_119 rfl ?_
              have hW : WD g A s _ _ [(t9, .inr (9, [.ref p1_1, .ref p0_1, .ref to])), (p0_1, .inl (g.2.1 1, 4096, .inl ft9q0_1)), (to, .inl (g.2.1 3, 6, .inl (F_X9_lookAtLines fto_1 lc L (nI (j1 + 1))))), (v, .inr (10, [.int (nI pe), .int (nI lc), .int de, .ref v3, .ref v4, .ref v5, .ref v6, .ref v7, .ref v8, .ref v9, .ref v10, .ref v11, .ref v12, .ref v13, .int gl, .ref v15])), (v9, .inl (g.2.1 1, 72, .inl L)), (p1_1, .inl (g.2.1 1, 4096, .inl (L2_X9_fewestCalls lc L j1 ft9q0_1 fto_1 (va_cpy ft9q0_1 ft9q1_1 0 0 4096) 4096)))] := hW.pick [2, 1, 3, 4, 5, 0] rfl rfl
              exact ih1 (j1 + 1) (L2_X9_fewestCalls lc L j1 ft9q0_1 fto_1 (va_cpy ft9q0_1 ft9q1_1 0 0 4096) 4096) ft9q0_1 (F_X9_lookAtLines fto_1 lc L (nI (j1 + 1))) p1_1 p0_1 (by omega) (by omega) ((show L1_X9_fewestCalls pe lc L n (fu1 + 1) j1 ft9q0_1 ft9q1_1 fto_1 p0_1 p1_1 = L1_X9_fewestCalls pe lc L n fu1 (j1 + 1) (L2_X9_fewestCalls lc L j1 ft9q0_1 fto_1 (va_cpy ft9q0_1 ft9q1_1 0 0 4096) 4096) ft9q0_1 (F_X9_lookAtLines fto_1 lc L (nI (j1 + 1))) p1_1 p0_1 from by rw [L1_X9_fewestCalls, if_neg c2]).symm.trans hst1) _ _ _ hW (lv_sub hl [0, 2, 3, 4] rfl)
            · have h13 : ¬ (4096 ≤ j2) := fun q => c11 ((nI_leI (a := 4096) (b := j2) (by omega) (by omega)).mpr q)
              refine lv_aload_n (pc := 61) hx hb dX9_fewestCalls_61 rfl (lv_at hl 2 rfl) ?_
              refine r_get X hW 2 ciX9 0 rfl (by decide) m_214 rfl rfl dX9_fewestCalls_62 ?_
              refine lv_iload (pc := 65) hx hb dX9_fewestCalls_65 (lv_at hl 0 rfl) ?_
              refine r_iald X hW 1 rfl (vp_in_nI (by omega) (by decide)) dX9_fewestCalls_67 ?_
              refine lv_topi (fun v14 ev14 => ?_)
              obtain rfl : v14 = ft9q0_1 j2 := ev14.trans (by rw [nI_clamp (by omega)])
              refine lv_sipush (v := 1000) (pc := 68) hx hb dX9_fewestCalls_68 (by decide) ?_
              refine lv_icmp_ge (tgt := 90) (pc := 71) hx hb dX9_fewestCalls_71 rfl (fun c15 => ?_) (fun c15 => ?_)
              · refine lv_iinc (v := nI (j2 + 1)) (lv' := [(4, .int (nI (j2 + 1))), (3, .int (nI (j1 + 1))), (0, .ref t9), (1, .ref v), (2, .int (nI n))]) (pc := 90) hx hb dX9_fewestCalls_90 hl (k := 0) rfl (nI_add j2 1) (by decide) rfl (fun ls hl => ?_)
                refine lv_goto (tgt := 53) (pc := 93) hx hb dX9_fewestCalls_93 rfl ?_
                exact ih2 (j2 + 1) ft9q1_2 (by omega) (by omega) (by rw [L2_X9_fewestCalls, ← hst2]; exact (show L2_X9_fewestCallss lc L j1 ft9q0_1 fto_1 j2 ft9q1_2 = ft9q1_2 from by rw [L2_X9_fewestCallss, if_pos c15]).symm) _ _ _ hW (lv_sub hl [0, 1, 2, 3, 4] rfl)
              · refine lv_aload_n (pc := 74) hx hb dX9_fewestCalls_74 rfl (lv_at hl 2 rfl) ?_
                refine lv_iload (pc := 75) hx hb dX9_fewestCalls_75 (lv_at hl 0 rfl) ?_
                refine c_Si (pc := 77) (As := [.int (nI j2)]) (rest := [.ref t9]) (wr := [(p1_1, .inl (g.2.1 1, 4096, .inl ft9q1_2)), (p0_1, .inl (g.2.1 1, 4096, .inl ft9q0_1)), (t9, .inr (9, [.ref p0_1, .ref p1_1, .ref to])), (to, .inl (g.2.1 3, 6, .inl (F_X9_lookAtLines fto_1 lc L (nI (j1 + 1))))), (v, .inr (10, [.int (nI pe), .int (nI lc), .int de, .ref v3, .ref v4, .ref v5, .ref v6, .ref v7, .ref v8, .ref v9, .ref v10, .ref v11, .ref v12, .ref v13, .int gl, .ref v15])), (v9, .inl (g.2.1 1, 72, .inl L))]) X hW (K_X9_stateAt l g (nI j2)) vX9_46 [] [0, 1, 2, 3, 4, 5] rfl rfl rfl rfl rfl rfl hl.1 rfl (Nat.le_of_ble_eq_true rfl) ⟨Nat.le_of_ble_eq_true rfl, Nat.le_of_ble_eq_true rfl⟩ ⟨Nat.le_of_ble_eq_true rfl, Nat.le_of_ble_eq_true rfl⟩ dX9_fewestCalls_77 (fun r18 u9 H locs hq hW => ?_)
                obtain ⟨rfl, rfl⟩ := hq
                have hW : WD g A s _ _ [(p1_1, .inl (g.2.1 1, 4096, .inl ft9q1_2)), (p0_1, .inl (g.2.1 1, 4096, .inl ft9q0_1)), (t9, .inr (9, [.ref p0_1, .ref p1_1, .ref to])), (to, .inl (g.2.1 3, 6, .inl (F_X9_lookAtLines fto_1 lc L (nI (j1 + 1))))), (v, .inr (10, [.int (nI pe), .int (nI lc), .int de, .ref v3, .ref v4, .ref v5, .ref v6, .ref v7, .ref v8, .ref v9, .ref v10, .ref v11, .ref v12, .ref v13, .int gl, .ref v15])), (v9, .inl (g.2.1 1, 72, .inl L))] := hW
                refine lv_aload_n (pc := 80) hx hb dX9_fewestCalls_80 rfl (lv_at hl 2 rfl) ?_
                refine r_get X hW 2 ciX9 0 rfl (by decide) m_214 rfl rfl dX9_fewestCalls_81 ?_
                refine lv_iload (pc := 84) hx hb dX9_fewestCalls_84 (lv_at hl 0 rfl) ?_
                refine r_iald X hW 1 rfl (vp_in_nI (by omega) (by decide)) dX9_fewestCalls_86 ?_
                refine lv_topi (fun v19 ev19 => ?_)
                obtain rfl : v19 = ft9q0_1 j2 := ev19.trans (by rw [nI_clamp (by omega)])
                refine c_Vv (pc := 87) (As := [.int (F_X9_stateAt (nI j2)), .int (ft9q0_1 j2)]) (rest := []) (wr := [(p0_1, .inl (g.2.1 1, 4096, .inl ft9q0_1)), (v, .inr (10, [.int (nI pe), .int (nI lc), .int de, .ref v3, .ref v4, .ref v5, .ref v6, .ref v7, .ref v8, .ref v9, .ref v10, .ref v11, .ref v12, .ref v13, .int gl, .ref v15])), (v9, .inl (g.2.1 1, 72, .inl L))]) X hW 2 ciX9 rfl (K_X9_goOn l g t9 p0_1 p1_1 to ft9q1_2 (F_X9_lookAtLines fto_1 lc L (nI (j1 + 1))) (F_X9_stateAt (nI j2)) (ft9q0_1 j2)) vX9_49 [2, 0, 3] [1, 4, 5] rfl rfl rfl rfl rfl rfl hl.1 rfl (Nat.le_of_ble_eq_true rfl) ⟨Nat.le_of_ble_eq_true rfl, Nat.le_of_ble_eq_true rfl⟩ ⟨Nat.le_of_ble_eq_true rfl, Nat.le_of_ble_eq_true rfl⟩ dX9_fewestCalls_87 (fun u9 H locs hq hW => ?_)
                obtain rfl := hq
                have hW : WD g A s _ _ [(p0_1, .inl (g.2.1 1, 4096, .inl ft9q0_1)), (v, .inr (10, [.int (nI pe), .int (nI lc), .int de, .ref v3, .ref v4, .ref v5, .ref v6, .ref v7, .ref v8, .ref v9, .ref v10, .ref v11, .ref v12, .ref v13, .int gl, .ref v15])), (v9, .inl (g.2.1 1, 72, .inl L)), (t9, .inr (9, [.ref p0_1, .ref p1_1, .ref to])), (p1_1, .inl (g.2.1 1, 4096, .inl (F_X9_goOn ft9q1_2 (F_X9_lookAtLines fto_1 lc L (nI (j1 + 1))) (F_X9_stateAt (nI j2)) (ft9q0_1 j2)))), (to, .inl (g.2.1 3, 6, .inl (F_X9_lookAtLines fto_1 lc L (nI (j1 + 1)))))] := hW
                refine lv_iinc (v := nI (j2 + 1)) (lv' := [(4, .int (nI (j2 + 1))), (3, .int (nI (j1 + 1))), (0, .ref t9), (1, .ref v), (2, .int (nI n))]) (pc := 90) hx hb dX9_fewestCalls_90 hl (k := 0) rfl (nI_add j2 1) (by decide) rfl (fun ls hl => ?_)
                refine lv_goto (tgt := 53) (pc := 93) hx hb dX9_fewestCalls_93 rfl ?_
                have hW : WD g A s _ _ [(p1_1, .inl (g.2.1 1, 4096, .inl (F_X9_goOn ft9q1_2 (F_X9_lookAtLines fto_1 lc L (nI (j1 + 1))) (F_X9_stateAt (nI j2)) (ft9q0_1 j2)))), (p0_1, .inl (g.2.1 1, 4096, .inl ft9q0_1)), (t9, .inr (9, [.ref p0_1, .ref p1_1, .ref to])), (to, .inl (g.2.1 3, 6, .inl (F_X9_lookAtLines fto_1 lc L (nI (j1 + 1))))), (v, .inr (10, [.int (nI pe), .int (nI lc), .int de, .ref v3, .ref v4, .ref v5, .ref v6, .ref v7, .ref v8, .ref v9, .ref v10, .ref v11, .ref v12, .ref v13, .int gl, .ref v15])), (v9, .inl (g.2.1 1, 72, .inl L))] := hW.pick [4, 0, 3, 5, 1, 2] rfl rfl
                exact ih2 (j2 + 1) (F_X9_goOn ft9q1_2 (F_X9_lookAtLines fto_1 lc L (nI (j1 + 1))) (F_X9_stateAt (nI j2)) (ft9q0_1 j2)) (by omega) (by omega) (by rw [L2_X9_fewestCalls, ← hst2]; exact (show L2_X9_fewestCallss lc L j1 ft9q0_1 fto_1 j2 ft9q1_2 = (F_X9_goOn ft9q1_2 (F_X9_lookAtLines fto_1 lc L (nI (j1 + 1))) (F_X9_stateAt (nI j2)) (ft9q0_1 j2)) from by rw [L2_X9_fewestCallss, if_neg c15]).symm) _ _ _ hW (lv_sub hl [0, 1, 2, 3, 4] rfl)
        exact loop2 (4096 + 1) 0 (va_cpy ft9q0_1 ft9q1_1 0 0 4096) (by omega) (by omega) rfl _ _ _ hW (lv_sub hl [0, 1, 2, 3, 4] rfl)
  exact loop1 (n + 1) 0 (upd (fun _ => 1000) (tN (F_X9_placeOf (33825 : Int32))) (0 : Int32)) fx fo tn tx (by omega) (by omega) (show F_X9_fewestCalls tn tx fx fo pe lc L n = L1_X9_fewestCalls pe lc L n (n + 1) 0 (upd (fun _ => 1000) (tN (F_X9_placeOf (33825 : Int32))) (0 : Int32)) fx fo tn tx from rfl).symm _ _ _ hW (lv_sub hl [0, 1, 2, 3] rfl)

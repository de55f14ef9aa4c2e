theorem dX10_twoWayLines_0 : decode cX10_twoWayLines 0 = .ok (.iconst 0, 1) := DX10_twoWayLines _ _ _ rfl
theorem dX10_twoWayLines_1 : decode cX10_twoWayLines 1 = .ok (.istore_n 1, 1) := DX10_twoWayLines _ _ _ rfl
theorem dX10_twoWayLines_2 : decode cX10_twoWayLines 2 = .ok (.iconst 0, 1) := DX10_twoWayLines _ _ _ rfl
theorem dX10_twoWayLines_3 : decode cX10_twoWayLines 3 = .ok (.istore_n 2, 1) := DX10_twoWayLines _ _ _ rfl
theorem dX10_twoWayLines_4 : decode cX10_twoWayLines 4 = .ok (.iload_n 2, 1) := DX10_twoWayLines _ _ _ rfl
theorem dX10_twoWayLines_5 : decode cX10_twoWayLines 5 = .ok (.aload_n 0, 1) := DX10_twoWayLines _ _ _ rfl
theorem dX10_twoWayLines_6 : decode cX10_twoWayLines 6 = .ok (.getfield 57, 3) := DX10_twoWayLines _ _ _ rfl
theorem dX10_twoWayLines_9 : decode cX10_twoWayLines 9 = .ok (.if_icmp .ge 20, 3) := DX10_twoWayLines _ _ _ rfl
theorem dX10_twoWayLines_29 : decode cX10_twoWayLines 29 = .ok (.iload_n 1, 1) := DX10_twoWayLines _ _ _ rfl
theorem dX10_twoWayLines_30 : decode cX10_twoWayLines 30 = .ok (.ireturn, 1) := DX10_twoWayLines _ _ _ rfl
theorem dX10_twoWayLines_12 : decode cX10_twoWayLines 12 = .ok (.aload_n 0, 1) := DX10_twoWayLines _ _ _ rfl
theorem dX10_twoWayLines_13 : decode cX10_twoWayLines 13 = .ok (.iload_n 2, 1) := DX10_twoWayLines _ _ _ rfl
theorem dX10_twoWayLines_14 : decode cX10_twoWayLines 14 = .ok (.invokevirtual 105, 3) := DX10_twoWayLines _ _ _ rfl
theorem dX10_twoWayLines_17 : decode cX10_twoWayLines 17 = .ok (.ifCond .ne 6, 3) := DX10_twoWayLines _ _ _ rfl
theorem dX10_twoWayLines_23 : decode cX10_twoWayLines 23 = .ok (.iinc 2 1, 3) := DX10_twoWayLines _ _ _ rfl
theorem dX10_twoWayLines_26 : decode cX10_twoWayLines 26 = .ok (.goto (-22), 3) := DX10_twoWayLines _ _ _ rfl
theorem dX10_twoWayLines_20 : decode cX10_twoWayLines 20 = .ok (.iinc 1 1, 3) := DX10_twoWayLines _ _ _ rfl
theorem dX0_slowest_0 : decode cX0_slowest 0 = .ok (.iconst 0, 1) := DX0_slowest _ _ _ rfl
theorem dX0_slowest_1 : decode cX0_slowest 1 = .ok (.istore_n 2, 1) := DX0_slowest _ _ _ rfl
theorem dX0_slowest_2 : decode cX0_slowest 2 = .ok (.iconst (-1), 1) := DX0_slowest _ _ _ rfl
theorem dX0_slowest_3 : decode cX0_slowest 3 = .ok (.istore_n 3, 1) := DX0_slowest _ _ _ rfl
theorem dX0_slowest_4 : decode cX0_slowest 4 = .ok (.iconst 0, 1) := DX0_slowest _ _ _ rfl
theorem dX0_slowest_5 : decode cX0_slowest 5 = .ok (.istore 4, 2) := DX0_slowest _ _ _ rfl
theorem dX0_slowest_7 : decode cX0_slowest 7 = .ok (.iload 4, 2) := DX0_slowest _ _ _ rfl
theorem dX0_slowest_9 : decode cX0_slowest 9 = .ok (.bipush 7, 2) := DX0_slowest _ _ _ rfl
theorem dX0_slowest_11 : decode cX0_slowest 11 = .ok (.if_icmp .ge 40, 3) := DX0_slowest _ _ _ rfl
theorem dX0_slowest_51 : decode cX0_slowest 51 = .ok (.iload_n 2, 1) := DX0_slowest _ _ _ rfl
theorem dX0_slowest_52 : decode cX0_slowest 52 = .ok (.ireturn, 1) := DX0_slowest _ _ _ rfl
theorem dX0_slowest_14 : decode cX0_slowest 14 = .ok (.iload_n 1, 1) := DX0_slowest _ _ _ rfl
theorem dX0_slowest_15 : decode cX0_slowest 15 = .ok (.iload 4, 2) := DX0_slowest _ _ _ rfl
theorem dX0_slowest_17 : decode cX0_slowest 17 = .ok (.invokestatic 54, 3) := DX0_slowest _ _ _ rfl
theorem dX0_slowest_20 : decode cX0_slowest 20 = .ok (.ifCond .eq 25, 3) := DX0_slowest _ _ _ rfl
theorem dX0_slowest_45 : decode cX0_slowest 45 = .ok (.iinc 4 1, 3) := DX0_slowest _ _ _ rfl
theorem dX0_slowest_48 : decode cX0_slowest 48 = .ok (.goto (-41), 3) := DX0_slowest _ _ _ rfl
theorem dX0_slowest_23 : decode cX0_slowest 23 = .ok (.aload_n 0, 1) := DX0_slowest _ _ _ rfl
theorem dX0_slowest_24 : decode cX0_slowest 24 = .ok (.getfield 15, 3) := DX0_slowest _ _ _ rfl
theorem dX0_slowest_27 : decode cX0_slowest 27 = .ok (.iload 4, 2) := DX0_slowest _ _ _ rfl
theorem dX0_slowest_29 : decode cX0_slowest 29 = .ok (.iaload, 1) := DX0_slowest _ _ _ rfl
theorem dX0_slowest_30 : decode cX0_slowest 30 = .ok (.iload_n 3, 1) := DX0_slowest _ _ _ rfl
theorem dX0_slowest_31 : decode cX0_slowest 31 = .ok (.if_icmp .le 14, 3) := DX0_slowest _ _ _ rfl
theorem dX0_slowest_34 : decode cX0_slowest 34 = .ok (.aload_n 0, 1) := DX0_slowest _ _ _ rfl
theorem dX0_slowest_35 : decode cX0_slowest 35 = .ok (.getfield 15, 3) := DX0_slowest _ _ _ rfl
theorem dX0_slowest_38 : decode cX0_slowest 38 = .ok (.iload 4, 2) := DX0_slowest _ _ _ rfl
theorem dX0_slowest_40 : decode cX0_slowest 40 = .ok (.iaload, 1) := DX0_slowest _ _ _ rfl
theorem dX0_slowest_41 : decode cX0_slowest 41 = .ok (.istore_n 3, 1) := DX0_slowest _ _ _ rfl
theorem dX0_slowest_42 : decode cX0_slowest 42 = .ok (.iload 4, 2) := DX0_slowest _ _ _ rfl
theorem dX0_slowest_44 : decode cX0_slowest 44 = .ok (.istore_n 2, 1) := DX0_slowest _ _ _ rfl
theorem dX0_timeOf_0 : decode cX0_timeOf 0 = .ok (.iconst 0, 1) := DX0_timeOf _ _ _ rfl
theorem dX0_timeOf_1 : decode cX0_timeOf 1 = .ok (.istore_n 2, 1) := DX0_timeOf _ _ _ rfl
theorem dX0_timeOf_2 : decode cX0_timeOf 2 = .ok (.aload_n 0, 1) := DX0_timeOf _ _ _ rfl
theorem dX0_timeOf_3 : decode cX0_timeOf 3 = .ok (.getfield 18, 3) := DX0_timeOf _ _ _ rfl
theorem dX0_timeOf_6 : decode cX0_timeOf 6 = .ok (.iload_n 1, 1) := DX0_timeOf _ _ _ rfl
theorem dX0_timeOf_7 : decode cX0_timeOf 7 = .ok (.iaload, 1) := DX0_timeOf _ _ _ rfl
theorem dX0_timeOf_8 : decode cX0_timeOf 8 = .ok (.istore_n 3, 1) := DX0_timeOf _ _ _ rfl
theorem dX0_timeOf_9 : decode cX0_timeOf 9 = .ok (.iconst 1, 1) := DX0_timeOf _ _ _ rfl
theorem dX0_timeOf_10 : decode cX0_timeOf 10 = .ok (.istore 4, 2) := DX0_timeOf _ _ _ rfl
theorem dX0_timeOf_12 : decode cX0_timeOf 12 = .ok (.iload_n 3, 1) := DX0_timeOf _ _ _ rfl
theorem dX0_timeOf_13 : decode cX0_timeOf 13 = .ok (.ifCond .eq 47, 3) := DX0_timeOf _ _ _ rfl
theorem dX0_timeOf_60 : decode cX0_timeOf 60 = .ok (.iload_n 2, 1) := DX0_timeOf _ _ _ rfl
theorem dX0_timeOf_61 : decode cX0_timeOf 61 = .ok (.ireturn, 1) := DX0_timeOf _ _ _ rfl
theorem dX0_timeOf_16 : decode cX0_timeOf 16 = .ok (.iload 4, 2) := DX0_timeOf _ _ _ rfl
theorem dX0_timeOf_18 : decode cX0_timeOf 18 = .ok (.bipush 7, 2) := DX0_timeOf _ _ _ rfl
theorem dX0_timeOf_20 : decode cX0_timeOf 20 = .ok (.if_icmp .ge 40, 3) := DX0_timeOf _ _ _ rfl
theorem dX0_timeOf_23 : decode cX0_timeOf 23 = .ok (.aload_n 0, 1) := DX0_timeOf _ _ _ rfl
theorem dX0_timeOf_24 : decode cX0_timeOf 24 = .ok (.iload_n 3, 1) := DX0_timeOf _ _ _ rfl
theorem dX0_timeOf_25 : decode cX0_timeOf 25 = .ok (.invokevirtual 82, 3) := DX0_timeOf _ _ _ rfl
theorem dX0_timeOf_28 : decode cX0_timeOf 28 = .ok (.istore 5, 2) := DX0_timeOf _ _ _ rfl
theorem dX0_timeOf_30 : decode cX0_timeOf 30 = .ok (.iload_n 2, 1) := DX0_timeOf _ _ _ rfl
theorem dX0_timeOf_31 : decode cX0_timeOf 31 = .ok (.iload 4, 2) := DX0_timeOf _ _ _ rfl
theorem dX0_timeOf_33 : decode cX0_timeOf 33 = .ok (.aload_n 0, 1) := DX0_timeOf _ _ _ rfl
theorem dX0_timeOf_34 : decode cX0_timeOf 34 = .ok (.getfield 15, 3) := DX0_timeOf _ _ _ rfl
theorem dX0_timeOf_37 : decode cX0_timeOf 37 = .ok (.iload 5, 2) := DX0_timeOf _ _ _ rfl
theorem dX0_timeOf_39 : decode cX0_timeOf 39 = .ok (.iaload, 1) := DX0_timeOf _ _ _ rfl
theorem dX0_timeOf_40 : decode cX0_timeOf 40 = .ok (.iadd, 1) := DX0_timeOf _ _ _ rfl
theorem mm_X0_41 : (Cond.methodLink "NoonValley$Cards" 85 Lib.Math.max.name) ∈ BW := bw (tb5 76 rfl) (by decide +kernel)
theorem dX0_timeOf_41 : decode cX0_timeOf 41 = .ok (.invokestatic 85, 3) := DX0_timeOf _ _ _ rfl
theorem dX0_timeOf_44 : decode cX0_timeOf 44 = .ok (.istore_n 2, 1) := DX0_timeOf _ _ _ rfl
theorem dX0_timeOf_45 : decode cX0_timeOf 45 = .ok (.iload_n 3, 1) := DX0_timeOf _ _ _ rfl
theorem dX0_timeOf_46 : decode cX0_timeOf 46 = .ok (.iconst 1, 1) := DX0_timeOf _ _ _ rfl
theorem dX0_timeOf_47 : decode cX0_timeOf 47 = .ok (.iload 5, 2) := DX0_timeOf _ _ _ rfl
theorem dX0_timeOf_49 : decode cX0_timeOf 49 = .ok (.ishl, 1) := DX0_timeOf _ _ _ rfl
theorem dX0_timeOf_50 : decode cX0_timeOf 50 = .ok (.iconst (-1), 1) := DX0_timeOf _ _ _ rfl
theorem dX0_timeOf_51 : decode cX0_timeOf 51 = .ok (.ixor, 1) := DX0_timeOf _ _ _ rfl
theorem dX0_timeOf_52 : decode cX0_timeOf 52 = .ok (.iand, 1) := DX0_timeOf _ _ _ rfl
theorem dX0_timeOf_53 : decode cX0_timeOf 53 = .ok (.istore_n 3, 1) := DX0_timeOf _ _ _ rfl
theorem dX0_timeOf_54 : decode cX0_timeOf 54 = .ok (.iinc 4 1, 3) := DX0_timeOf _ _ _ rfl
theorem dX0_timeOf_57 : decode cX0_timeOf 57 = .ok (.goto (-45), 3) := DX0_timeOf _ _ _ rfl
theorem dX0_below_0 : decode cX0_below 0 = .ok (.aload_n 0, 1) := DX0_below _ _ _ rfl
theorem dX0_below_1 : decode cX0_below 1 = .ok (.getfield 18, 3) := DX0_below _ _ _ rfl
theorem dX0_below_4 : decode cX0_below 4 = .ok (.iload_n 1, 1) := DX0_below _ _ _ rfl
theorem dX0_below_5 : decode cX0_below 5 = .ok (.iaload, 1) := DX0_below _ _ _ rfl
theorem dX0_below_6 : decode cX0_below 6 = .ok (.istore_n 3, 1) := DX0_below _ _ _ rfl
theorem dX0_below_7 : decode cX0_below 7 = .ok (.iconst 0, 1) := DX0_below _ _ _ rfl
theorem dX0_below_8 : decode cX0_below 8 = .ok (.istore 4, 2) := DX0_below _ _ _ rfl
theorem dX0_below_10 : decode cX0_below 10 = .ok (.iload_n 3, 1) := DX0_below _ _ _ rfl
theorem dX0_below_11 : decode cX0_below 11 = .ok (.ifCond .eq 41, 3) := DX0_below _ _ _ rfl
theorem dX0_below_52 : decode cX0_below 52 = .ok (.iconst (-1), 1) := DX0_below _ _ _ rfl
theorem dX0_below_53 : decode cX0_below 53 = .ok (.ireturn, 1) := DX0_below _ _ _ rfl
theorem dX0_below_14 : decode cX0_below 14 = .ok (.iload 4, 2) := DX0_below _ _ _ rfl
theorem dX0_below_16 : decode cX0_below 16 = .ok (.bipush 7, 2) := DX0_below _ _ _ rfl
theorem dX0_below_18 : decode cX0_below 18 = .ok (.if_icmp .ge 34, 3) := DX0_below _ _ _ rfl
theorem dX0_below_21 : decode cX0_below 21 = .ok (.aload_n 0, 1) := DX0_below _ _ _ rfl
theorem dX0_below_22 : decode cX0_below 22 = .ok (.iload_n 3, 1) := DX0_below _ _ _ rfl
theorem dX0_below_23 : decode cX0_below 23 = .ok (.invokevirtual 82, 3) := DX0_below _ _ _ rfl
theorem dX0_below_26 : decode cX0_below 26 = .ok (.istore 5, 2) := DX0_below _ _ _ rfl
theorem dX0_below_28 : decode cX0_below 28 = .ok (.iload 4, 2) := DX0_below _ _ _ rfl
theorem dX0_below_30 : decode cX0_below 30 = .ok (.iload_n 2, 1) := DX0_below _ _ _ rfl
theorem dX0_below_31 : decode cX0_below 31 = .ok (.if_icmp .ne 6, 3) := DX0_below _ _ _ rfl
theorem dX0_below_37 : decode cX0_below 37 = .ok (.iload_n 3, 1) := DX0_below _ _ _ rfl
theorem dX0_below_38 : decode cX0_below 38 = .ok (.iconst 1, 1) := DX0_below _ _ _ rfl
theorem dX0_below_39 : decode cX0_below 39 = .ok (.iload 5, 2) := DX0_below _ _ _ rfl
theorem dX0_below_41 : decode cX0_below 41 = .ok (.ishl, 1) := DX0_below _ _ _ rfl
theorem dX0_below_42 : decode cX0_below 42 = .ok (.iconst (-1), 1) := DX0_below _ _ _ rfl
theorem dX0_below_43 : decode cX0_below 43 = .ok (.ixor, 1) := DX0_below _ _ _ rfl
theorem dX0_below_44 : decode cX0_below 44 = .ok (.iand, 1) := DX0_below _ _ _ rfl
theorem dX0_below_45 : decode cX0_below 45 = .ok (.istore_n 3, 1) := DX0_below _ _ _ rfl
theorem dX0_below_46 : decode cX0_below 46 = .ok (.iinc 4 1, 3) := DX0_below _ _ _ rfl
theorem dX0_below_49 : decode cX0_below 49 = .ok (.goto (-39), 3) := DX0_below _ _ _ rfl
theorem dX0_below_34 : decode cX0_below 34 = .ok (.iload 5, 2) := DX0_below _ _ _ rfl
theorem dX0_below_36 : decode cX0_below 36 = .ok (.ireturn, 1) := DX0_below _ _ _ rfl
theorem dX0_growTree_0 : decode cX0_growTree 0 = .ok (.aload_n 1, 1) := DX0_growTree _ _ _ rfl
theorem dX0_growTree_1 : decode cX0_growTree 1 = .ok (.invokevirtual 68, 3) := DX0_growTree _ _ _ rfl
theorem dX0_growTree_4 : decode cX0_growTree 4 = .ok (.aload_n 1, 1) := DX0_growTree _ _ _ rfl
theorem dX0_growTree_5 : decode cX0_growTree 5 = .ok (.getfield 51, 3) := DX0_growTree _ _ _ rfl
theorem dX0_growTree_8 : decode cX0_growTree 8 = .ok (.iconst 1, 1) := DX0_growTree _ _ _ rfl
theorem dX0_growTree_9 : decode cX0_growTree 9 = .ok (.isub, 1) := DX0_growTree _ _ _ rfl
theorem dX0_growTree_10 : decode cX0_growTree 10 = .ok (.if_icmp .ne 10, 3) := DX0_growTree _ _ _ rfl
theorem dX0_growTree_20 : decode cX0_growTree 20 = .ok (.iconst 0, 1) := DX0_growTree _ _ _ rfl
theorem dX0_growTree_21 : decode cX0_growTree 21 = .ok (.ireturn, 1) := DX0_growTree _ _ _ rfl
theorem dX0_growTree_13 : decode cX0_growTree 13 = .ok (.aload_n 1, 1) := DX0_growTree _ _ _ rfl
theorem dX0_growTree_14 : decode cX0_growTree 14 = .ok (.invokevirtual 71, 3) := DX0_growTree _ _ _ rfl
theorem dX0_growTree_17 : decode cX0_growTree 17 = .ok (.ifCond .ne 5, 3) := DX0_growTree _ _ _ rfl
theorem dX0_growTree_22 : decode cX0_growTree 22 = .ok (.iconst 1, 1) := DX0_growTree _ _ _ rfl
theorem dX0_growTree_23 : decode cX0_growTree 23 = .ok (.iload_n 2, 1) := DX0_growTree _ _ _ rfl
theorem dX0_growTree_24 : decode cX0_growTree 24 = .ok (.ishl, 1) := DX0_growTree _ _ _ rfl
theorem dX0_growTree_25 : decode cX0_growTree 25 = .ok (.istore_n 3, 1) := DX0_growTree _ _ _ rfl
theorem dX0_growTree_26 : decode cX0_growTree 26 = .ok (.iconst 1, 1) := DX0_growTree _ _ _ rfl
theorem dX0_growTree_27 : decode cX0_growTree 27 = .ok (.istore 4, 2) := DX0_growTree _ _ _ rfl
theorem dX0_growTree_29 : decode cX0_growTree 29 = .ok (.aload_n 0, 1) := DX0_growTree _ _ _ rfl
theorem dX0_growTree_30 : decode cX0_growTree 30 = .ok (.getfield 21, 3) := DX0_growTree _ _ _ rfl
theorem dX0_growTree_33 : decode cX0_growTree 33 = .ok (.iconst 0, 1) := DX0_growTree _ _ _ rfl
theorem dX0_growTree_34 : decode cX0_growTree 34 = .ok (.iload_n 2, 1) := DX0_growTree _ _ _ rfl
theorem dX0_growTree_35 : decode cX0_growTree 35 = .ok (.iastore, 1) := DX0_growTree _ _ _ rfl
theorem dX0_growTree_36 : decode cX0_growTree 36 = .ok (.iconst 0, 1) := DX0_growTree _ _ _ rfl
theorem dX0_growTree_37 : decode cX0_growTree 37 = .ok (.istore 5, 2) := DX0_growTree _ _ _ rfl
theorem dX0_growTree_39 : decode cX0_growTree 39 = .ok (.iload 5, 2) := DX0_growTree _ _ _ rfl
theorem dX0_growTree_41 : decode cX0_growTree 41 = .ok (.iload 4, 2) := DX0_growTree _ _ _ rfl
theorem dX0_growTree_43 : decode cX0_growTree 43 = .ok (.if_icmp .ge 104, 3) := DX0_growTree _ _ _ rfl
theorem dX0_growTree_147 : decode cX0_growTree 147 = .ok (.iload 4, 2) := DX0_growTree _ _ _ rfl
theorem dX0_growTree_149 : decode cX0_growTree 149 = .ok (.iconst 1, 1) := DX0_growTree _ _ _ rfl
theorem dX0_growTree_150 : decode cX0_growTree 150 = .ok (.isub, 1) := DX0_growTree _ _ _ rfl
theorem dX0_growTree_151 : decode cX0_growTree 151 = .ok (.istore 5, 2) := DX0_growTree _ _ _ rfl
theorem dX0_growTree_153 : decode cX0_growTree 153 = .ok (.iload 5, 2) := DX0_growTree _ _ _ rfl
theorem dX0_growTree_155 : decode cX0_growTree 155 = .ok (.ifCond .lt 32, 3) := DX0_growTree _ _ _ rfl
theorem dX0_growTree_187 : decode cX0_growTree 187 = .ok (.iconst 1, 1) := DX0_growTree _ _ _ rfl
theorem dX0_growTree_188 : decode cX0_growTree 188 = .ok (.ireturn, 1) := DX0_growTree _ _ _ rfl
theorem dX0_growTree_158 : decode cX0_growTree 158 = .ok (.aload_n 0, 1) := DX0_growTree _ _ _ rfl
theorem dX0_growTree_159 : decode cX0_growTree 159 = .ok (.getfield 15, 3) := DX0_growTree _ _ _ rfl
theorem dX0_growTree_162 : decode cX0_growTree 162 = .ok (.aload_n 0, 1) := DX0_growTree _ _ _ rfl
theorem dX0_growTree_163 : decode cX0_growTree 163 = .ok (.getfield 21, 3) := DX0_growTree _ _ _ rfl
theorem dX0_growTree_166 : decode cX0_growTree 166 = .ok (.iload 5, 2) := DX0_growTree _ _ _ rfl
theorem dX0_growTree_168 : decode cX0_growTree 168 = .ok (.iaload, 1) := DX0_growTree _ _ _ rfl
theorem dX0_growTree_169 : decode cX0_growTree 169 = .ok (.aload_n 0, 1) := DX0_growTree _ _ _ rfl
theorem dX0_growTree_170 : decode cX0_growTree 170 = .ok (.aload_n 0, 1) := DX0_growTree _ _ _ rfl
theorem dX0_growTree_171 : decode cX0_growTree 171 = .ok (.getfield 21, 3) := DX0_growTree _ _ _ rfl
theorem dX0_growTree_174 : decode cX0_growTree 174 = .ok (.iload 5, 2) := DX0_growTree _ _ _ rfl
theorem dX0_growTree_176 : decode cX0_growTree 176 = .ok (.iaload, 1) := DX0_growTree _ _ _ rfl
theorem dX0_growTree_177 : decode cX0_growTree 177 = .ok (.invokevirtual 79, 3) := DX0_growTree _ _ _ rfl
theorem dX0_growTree_180 : decode cX0_growTree 180 = .ok (.iastore, 1) := DX0_growTree _ _ _ rfl
theorem dX0_growTree_181 : decode cX0_growTree 181 = .ok (.iinc 5 (-1), 3) := DX0_growTree _ _ _ rfl
theorem dX0_growTree_184 : decode cX0_growTree 184 = .ok (.goto (-31), 3) := DX0_growTree _ _ _ rfl
theorem dX0_growTree_46 : decode cX0_growTree 46 = .ok (.iload 5, 2) := DX0_growTree _ _ _ rfl
theorem dX0_growTree_48 : decode cX0_growTree 48 = .ok (.bipush 7, 2) := DX0_growTree _ _ _ rfl
theorem dX0_growTree_50 : decode cX0_growTree 50 = .ok (.if_icmp .ge 97, 3) := DX0_growTree _ _ _ rfl
theorem dX0_growTree_53 : decode cX0_growTree 53 = .ok (.aload_n 0, 1) := DX0_growTree _ _ _ rfl
theorem dX0_growTree_54 : decode cX0_growTree 54 = .ok (.getfield 21, 3) := DX0_growTree _ _ _ rfl
theorem dX0_growTree_57 : decode cX0_growTree 57 = .ok (.iload 5, 2) := DX0_growTree _ _ _ rfl
theorem dX0_growTree_59 : decode cX0_growTree 59 = .ok (.iaload, 1) := DX0_growTree _ _ _ rfl
theorem dX0_growTree_60 : decode cX0_growTree 60 = .ok (.istore 6, 2) := DX0_growTree _ _ _ rfl
theorem dX0_growTree_62 : decode cX0_growTree 62 = .ok (.aload_n 0, 1) := DX0_growTree _ _ _ rfl
theorem dX0_growTree_63 : decode cX0_growTree 63 = .ok (.getfield 18, 3) := DX0_growTree _ _ _ rfl
theorem dX0_growTree_66 : decode cX0_growTree 66 = .ok (.iload 6, 2) := DX0_growTree _ _ _ rfl
theorem dX0_growTree_68 : decode cX0_growTree 68 = .ok (.aload_n 1, 1) := DX0_growTree _ _ _ rfl
theorem dX0_growTree_69 : decode cX0_growTree 69 = .ok (.iload 6, 2) := DX0_growTree _ _ _ rfl
theorem dX0_growTree_71 : decode cX0_growTree 71 = .ok (.invokevirtual 75, 3) := DX0_growTree _ _ _ rfl
theorem dX0_growTree_74 : decode cX0_growTree 74 = .ok (.iload_n 3, 1) := DX0_growTree _ _ _ rfl
theorem dX0_growTree_75 : decode cX0_growTree 75 = .ok (.iconst (-1), 1) := DX0_growTree _ _ _ rfl
theorem dX0_growTree_76 : decode cX0_growTree 76 = .ok (.ixor, 1) := DX0_growTree _ _ _ rfl
theorem dX0_growTree_77 : decode cX0_growTree 77 = .ok (.iand, 1) := DX0_growTree _ _ _ rfl
theorem dX0_growTree_78 : decode cX0_growTree 78 = .ok (.iastore, 1) := DX0_growTree _ _ _ rfl
theorem dX0_growTree_79 : decode cX0_growTree 79 = .ok (.iload_n 3, 1) := DX0_growTree _ _ _ rfl
theorem dX0_growTree_80 : decode cX0_growTree 80 = .ok (.aload_n 0, 1) := DX0_growTree _ _ _ rfl
theorem dX0_growTree_81 : decode cX0_growTree 81 = .ok (.getfield 18, 3) := DX0_growTree _ _ _ rfl
theorem dX0_growTree_84 : decode cX0_growTree 84 = .ok (.iload 6, 2) := DX0_growTree _ _ _ rfl
theorem dX0_growTree_86 : decode cX0_growTree 86 = .ok (.iaload, 1) := DX0_growTree _ _ _ rfl
theorem dX0_growTree_87 : decode cX0_growTree 87 = .ok (.ior, 1) := DX0_growTree _ _ _ rfl
theorem dX0_growTree_88 : decode cX0_growTree 88 = .ok (.istore_n 3, 1) := DX0_growTree _ _ _ rfl
theorem dX0_growTree_89 : decode cX0_growTree 89 = .ok (.iconst 0, 1) := DX0_growTree _ _ _ rfl
theorem dX0_growTree_90 : decode cX0_growTree 90 = .ok (.istore 7, 2) := DX0_growTree _ _ _ rfl
theorem dX0_growTree_92 : decode cX0_growTree 92 = .ok (.iload 7, 2) := DX0_growTree _ _ _ rfl
theorem dX0_growTree_94 : decode cX0_growTree 94 = .ok (.aload_n 1, 1) := DX0_growTree _ _ _ rfl
theorem dX0_growTree_95 : decode cX0_growTree 95 = .ok (.getfield 51, 3) := DX0_growTree _ _ _ rfl
theorem dX0_growTree_98 : decode cX0_growTree 98 = .ok (.if_icmp .ge 43, 3) := DX0_growTree _ _ _ rfl
theorem dX0_growTree_141 : decode cX0_growTree 141 = .ok (.iinc 5 1, 3) := DX0_growTree _ _ _ rfl
theorem dX0_growTree_144 : decode cX0_growTree 144 = .ok (.goto (-105), 3) := DX0_growTree _ _ _ rfl
theorem dX0_growTree_101 : decode cX0_growTree 101 = .ok (.aload_n 0, 1) := DX0_growTree _ _ _ rfl
theorem dX0_growTree_102 : decode cX0_growTree 102 = .ok (.getfield 18, 3) := DX0_growTree _ _ _ rfl
theorem dX0_growTree_105 : decode cX0_growTree 105 = .ok (.iload 6, 2) := DX0_growTree _ _ _ rfl
theorem dX0_growTree_107 : decode cX0_growTree 107 = .ok (.iaload, 1) := DX0_growTree _ _ _ rfl
theorem dX0_growTree_108 : decode cX0_growTree 108 = .ok (.iload 7, 2) := DX0_growTree _ _ _ rfl
theorem dX0_growTree_110 : decode cX0_growTree 110 = .ok (.invokestatic 54, 3) := DX0_growTree _ _ _ rfl
theorem dX0_growTree_113 : decode cX0_growTree 113 = .ok (.ifCond .eq 22, 3) := DX0_growTree _ _ _ rfl
theorem dX0_growTree_135 : decode cX0_growTree 135 = .ok (.iinc 7 1, 3) := DX0_growTree _ _ _ rfl
theorem dX0_growTree_138 : decode cX0_growTree 138 = .ok (.goto (-46), 3) := DX0_growTree _ _ _ rfl
theorem dX0_growTree_116 : decode cX0_growTree 116 = .ok (.iload 4, 2) := DX0_growTree _ _ _ rfl
theorem dX0_growTree_118 : decode cX0_growTree 118 = .ok (.bipush 7, 2) := DX0_growTree _ _ _ rfl
theorem dX0_growTree_120 : decode cX0_growTree 120 = .ok (.if_icmp .ge 15, 3) := DX0_growTree _ _ _ rfl
theorem dX0_growTree_123 : decode cX0_growTree 123 = .ok (.aload_n 0, 1) := DX0_growTree _ _ _ rfl
theorem dX0_growTree_124 : decode cX0_growTree 124 = .ok (.getfield 21, 3) := DX0_growTree _ _ _ rfl
theorem dX0_growTree_127 : decode cX0_growTree 127 = .ok (.iload 4, 2) := DX0_growTree _ _ _ rfl
theorem dX0_growTree_129 : decode cX0_growTree 129 = .ok (.iload 7, 2) := DX0_growTree _ _ _ rfl
theorem dX0_growTree_131 : decode cX0_growTree 131 = .ok (.iastore, 1) := DX0_growTree _ _ _ rfl
theorem dX0_growTree_132 : decode cX0_growTree 132 = .ok (.iinc 4 1, 3) := DX0_growTree _ _ _ rfl
theorem dX11_tree_12 : decode cX11_tree 12 = .ok (.aload 5, 2) := DX11_tree _ _ _ rfl
theorem dX11_tree_14 : decode cX11_tree 14 = .ok (.iload_n 2, 1) := DX11_tree _ _ _ rfl
theorem dX11_tree_15 : decode cX11_tree 15 = .ok (.invokevirtual 168, 3) := DX11_tree _ _ _ rfl
theorem dX11_tree_18 : decode cX11_tree 18 = .ok (.ifCond .eq 31, 3) := DX11_tree _ _ _ rfl
theorem dX11_tree_21 : decode cX11_tree 21 = .ok (.aload 5, 2) := DX11_tree _ _ _ rfl
theorem dX11_tree_23 : decode cX11_tree 23 = .ok (.iload_n 3, 1) := DX11_tree _ _ _ rfl
theorem dX11_tree_24 : decode cX11_tree 24 = .ok (.invokevirtual 168, 3) := DX11_tree _ _ _ rfl
theorem dX11_tree_27 : decode cX11_tree 27 = .ok (.ifCond .eq 22, 3) := DX11_tree _ _ _ rfl
theorem dX11_tree_30 : decode cX11_tree 30 = .ok (.iload 4, 2) := DX11_tree _ _ _ rfl
theorem dX11_tree_32 : decode cX11_tree 32 = .ok (.iconst (-1), 1) := DX11_tree _ _ _ rfl
theorem dX11_tree_33 : decode cX11_tree 33 = .ok (.if_icmp .lt 16, 3) := DX11_tree _ _ _ rfl
theorem dX11_tree_36 : decode cX11_tree 36 = .ok (.aload_n 0, 1) := DX11_tree _ _ _ rfl
theorem dX11_tree_37 : decode cX11_tree 37 = .ok (.getfield 66, 3) := DX11_tree _ _ _ rfl
theorem dX11_tree_40 : decode cX11_tree 40 = .ok (.aload 5, 2) := DX11_tree _ _ _ rfl
theorem dX11_tree_42 : decode cX11_tree 42 = .ok (.iload_n 2, 1) := DX11_tree _ _ _ rfl
theorem dX11_tree_43 : decode cX11_tree 43 = .ok (.invokevirtual 279, 3) := DX11_tree _ _ _ rfl
theorem dX11_tree_46 : decode cX11_tree 46 = .ok (.ifCond .ne 5, 3) := DX11_tree _ _ _ rfl
theorem dX11_tree_51 : decode cX11_tree 51 = .ok (.iload 4, 2) := DX11_tree _ _ _ rfl
theorem dX11_tree_53 : decode cX11_tree 53 = .ok (.iconst (-1), 1) := DX11_tree _ _ _ rfl
theorem dX11_tree_54 : decode cX11_tree 54 = .ok (.if_icmp .ne 15, 3) := DX11_tree _ _ _ rfl
theorem dX11_tree_69 : decode cX11_tree 69 = .ok (.aload_n 0, 1) := DX11_tree _ _ _ rfl
theorem dX11_tree_70 : decode cX11_tree 70 = .ok (.getfield 66, 3) := DX11_tree _ _ _ rfl
theorem dX11_tree_73 : decode cX11_tree 73 = .ok (.iload_n 3, 1) := DX11_tree _ _ _ rfl
theorem dX11_tree_74 : decode cX11_tree 74 = .ok (.iload 4, 2) := DX11_tree _ _ _ rfl
theorem dX11_tree_76 : decode cX11_tree 76 = .ok (.invokevirtual 285, 3) := DX11_tree _ _ _ rfl
theorem dX11_tree_79 : decode cX11_tree 79 = .ok (.ireturn, 1) := DX11_tree _ _ _ rfl
theorem dX11_tree_57 : decode cX11_tree 57 = .ok (.aload_n 0, 1) := DX11_tree _ _ _ rfl
theorem dX11_tree_58 : decode cX11_tree 58 = .ok (.getfield 66, 3) := DX11_tree _ _ _ rfl
theorem dX11_tree_61 : decode cX11_tree 61 = .ok (.getfield 282, 3) := DX11_tree _ _ _ rfl
theorem dX11_tree_64 : decode cX11_tree 64 = .ok (.iload_n 3, 1) := DX11_tree _ _ _ rfl
theorem dX11_tree_65 : decode cX11_tree 65 = .ok (.iaload, 1) := DX11_tree _ _ _ rfl
theorem dX11_tree_66 : decode cX11_tree 66 = .ok (.goto 13, 3) := DX11_tree _ _ _ rfl
def L1_X10_twoWayLiness (L : Nat → Int32) (j1 : Nat) (x1_1 : Int32) : Int32 := if b1 (L (j1 * 6 + 4)) = 0 then (x1_1 + 1) else (x1_1)
def L1_X10_twoWayLines (L : Nat → Int32) (i0_ : Int32) : Nat → Int32
  | 0 => (i0_)
  | k_ + 1 => L1_X10_twoWayLiness L k_ (L1_X10_twoWayLines L i0_ k_)
def F_X10_twoWayLines (lc : Nat) (L : Nat → Int32) : Int32 := (L1_X10_twoWayLines L (0 : Int32) lc)
set_option maxHeartbeats 4000000 in
set_option maxRecDepth 100000 in
theorem K_X10_twoWayLines (l : Launch) (g : GG) (v : Nat) (v3 : Nat) (v4 : Nat) (v5 : Nat) (v6 : Nat) (v7 : Nat) (v8 : Nat) (v9 : Nat) (v10 : Nat) (v11 : Nat) (v12 : Nat) (v13 : Nat) (v15 : Nat) (pe : Int32) (lc : Nat) (de : Int32) (gl : Int32) (L : Nat → Int32) (hlc : lc ≤ 12) : MetI l g yX10_twoWayLines cX10_twoWayLines 3 (some .int) 2 0 0 [.ref v] [(v, .inr (10, [.int pe, .int (nI lc), .int de, .ref v3, .ref v4, .ref v5, .ref v6, .ref v7, .ref v8, .ref v9, .ref v10, .ref v11, .ref v12, .ref v13, .int gl, .ref v15])), (v9, .inl (g.2.1 1, 72, .inl L))] (fun r u => r = (F_X10_twoWayLines lc L) ∧ u = [(v, .inr (10, [.int pe, .int (nI lc), .int de, .ref v3, .ref v4, .ref v5, .ref v6, .ref v7, .ref v8, .ref v9, .ref v10, .ref v11, .ref v12, .ref v13, .int gl, .ref v15])), (v9, .inl (g.2.1 1, 72, .inl L))]) := by
  refine MetI.of (own := RX10) rfl (by decide) (Nat.le_of_ble_eq_true rfl) ?_
  intro p e s m below meth c A ls args Q hQ X hr hin hW hl
  have hx := X.1
  have hb := X.2.1
  have hl : lv_has ls 3 [(0, .ref v)] := hl
  refine lv_iconst (v := 0) (pc := 0) hx hb dX10_twoWayLines_0 (by decide) ?_
  refine lv_istore_n (lv' := [(1, .int 0), (0, .ref v)]) (pc := 1) hx hb dX10_twoWayLines_1 rfl hl (by decide) rfl (fun ls hl => ?_)
  refine lv_iconst (v := 0) (pc := 2) hx hb dX10_twoWayLines_2 (by decide) ?_
  refine lv_istore_n (lv' := [(2, .int 0), (1, .int 0), (0, .ref v)]) (pc := 3) hx hb dX10_twoWayLines_3 rfl hl (by decide) rfl (fun ls hl => ?_)
  have loop1 : ∀ (fu1 : Nat) (j1 : Nat) (x1_1 : Int32), (lc < fu1 + j1) → (j1 ≤ lc) → (x1_1 = L1_X10_twoWayLines L (0 : Int32) j1) → ∀ (H : Heap) (locs : List Loc) (ls : Array Slot), WD g A s H locs [(v, .inr (10, [.int pe, .int (nI lc), .int de, .ref v3, .ref v4, .ref v5, .ref v6, .ref v7, .ref v8, .ref v9, .ref v10, .ref v11, .ref v12, .ref v13, .int gl, .ref v15])), (v9, .inl (g.2.1 1, 72, .inl L))] → lv_has ls 3 [(2, .int (nI j1)), (1, .int x1_1), (0, .ref v)] → W p l e (RM 2 0 0) s m args below meth c H locs 0 0 Q (F0 m 4 ls []) := by
    intro fu1
    induction fu1 with
    | zero =>
      intro j1 x1_1 hm1 hj1 hst1
      exact absurd hm1 (by omega)
    | succ fu1 ih1 =>
      intro j1 x1_1 hm1 hj1 hst1 H locs ls hW hl
      refine lv_iload_n (pc := 4) hx hb dX10_twoWayLines_4 rfl (lv_at hl 0 rfl) ?_
      refine lv_aload_n (pc := 5) hx hb dX10_twoWayLines_5 rfl (lv_at hl 2 rfl) ?_
      refine r_get X hW 0 ciX10 1 rfl (by decide) m_280 rfl rfl dX10_twoWayLines_6 ?_
      refine lv_icmp_ge (tgt := 29) (pc := 9) hx hb dX10_twoWayLines_9 rfl (fun c1 => ?_) (fun c1 => ?_)
      · have h2 : lc ≤ j1 := (nI_leI (a := lc) (b := j1) (by omega) (by omega)).mp c1
        have hN1 : j1 = lc := by omega
        rw [hN1] at hst1
        subst hst1
        have hW : WD g A s _ _ [(v, .inr (10, [.int pe, .int (nI lc), .int de, .ref v3, .ref v4, .ref v5, .ref v6, .ref v7, .ref v8, .ref v9, .ref v10, .ref v11, .ref v12, .ref v13, .int gl, .ref v15])), (v9, .inl (g.2.1 1, 72, .inl L))] := hW
        refine lv_iload_n (pc := 29) hx hb dX10_twoWayLines_29 rfl (lv_at hl 1 rfl) ?_
        have hF : F_X10_twoWayLines lc L = (L1_X10_twoWayLines L (0 : Int32) lc) := show F_X10_twoWayLines lc L = (L1_X10_twoWayLines L (0 : Int32) lc) from rfl
        exact e_i (u := [(v, .inr (10, [.int pe, .int (nI lc), .int de, .ref v3, .ref v4, .ref v5, .ref v6, .ref v7, .ref v8, .ref v9, .ref v10, .ref v11, .ref v12, .ref v13, .int gl, .ref v15])), (v9, .inl (g.2.1 1, 72, .inl L))]) X hQ hr (hW) [0, 1] rfl rfl (⟨hF.symm, rfl⟩) ⟨Nat.le_of_ble_eq_true rfl, Nat.le_of_ble_eq_true rfl⟩ dX10_twoWayLines_30
      · have h3 : ¬ (lc ≤ j1) := fun q => c1 ((nI_leI (a := lc) (b := j1) (by omega) (by omega)).mpr q)
        refine lv_aload_n (pc := 12) hx hb dX10_twoWayLines_12 rfl (lv_at hl 2 rfl) ?_
        refine lv_iload_n (pc := 13) hx hb dX10_twoWayLines_13 rfl (lv_at hl 0 rfl) ?_
        refine c_Vi (pc := 14) (As := [.int (nI j1)]) (rest := []) (wr := []) X hW 0 ciX10 rfl (C_X10_isOneWayG l g v v3 v4 v5 v6 v7 v8 v9 v10 v11 v12 v13 v15 pe (nI lc) de gl L j1 (by omega)) vX10_105 [0, 1] [] rfl rfl rfl rfl rfl rfl hl.1 rfl (Nat.le_of_ble_eq_true rfl) ⟨Nat.le_of_ble_eq_true rfl, Nat.le_of_ble_eq_true rfl⟩ ⟨Nat.le_of_ble_eq_true rfl, Nat.le_of_ble_eq_true rfl⟩ dX10_twoWayLines_14 (fun r4 u9 H locs hq hW => ?_)
        obtain ⟨rfl, rfl⟩ := hq
        have hW : WD g A s _ _ [(v, .inr (10, [.int pe, .int (nI lc), .int de, .ref v3, .ref v4, .ref v5, .ref v6, .ref v7, .ref v8, .ref v9, .ref v10, .ref v11, .ref v12, .ref v13, .int gl, .ref v15])), (v9, .inl (g.2.1 1, 72, .inl L))] := hW
        refine lv_if_ne (tgt := 23) (pc := 17) hx hb dX10_twoWayLines_17 rfl (fun c5 => ?_) (fun c5 => ?_)
        · refine lv_iinc (v := nI (j1 + 1)) (lv' := [(2, .int (nI (j1 + 1))), (1, .int x1_1), (0, .ref v)]) (pc := 23) hx hb dX10_twoWayLines_23 hl (k := 0) rfl (nI_add j1 1) (by decide) rfl (fun ls hl => ?_)
          refine lv_goto (tgt := 4) (pc := 26) hx hb dX10_twoWayLines_26 rfl ?_
          exact ih1 (j1 + 1) x1_1 (by omega) (by omega) (by rw [L1_X10_twoWayLines, ← hst1]; exact (show L1_X10_twoWayLiness L j1 x1_1 = x1_1 from by rw [L1_X10_twoWayLiness, if_neg c5]).symm) _ _ _ hW (lv_sub hl [0, 1, 2] rfl)
        · refine lv_iinc (v := x1_1 + 1) (lv' := [(1, .int (x1_1 + 1)), (2, .int (nI j1)), (0, .ref v)]) (pc := 20) hx hb dX10_twoWayLines_20 hl (k := 1) rfl (rfl) (by decide) rfl (fun ls hl => ?_)
          refine lv_iinc (v := nI (j1 + 1)) (lv' := [(2, .int (nI (j1 + 1))), (1, .int (x1_1 + 1)), (0, .ref v)]) (pc := 23) hx hb dX10_twoWayLines_23 hl (k := 1) rfl (nI_add j1 1) (by decide) rfl (fun ls hl => ?_)
          refine lv_goto (tgt := 4) (pc := 26) hx hb dX10_twoWayLines_26 rfl ?_
          exact ih1 (j1 + 1) (x1_1 + 1) (by omega) (by omega) (by rw [L1_X10_twoWayLines, ← hst1]; exact (show L1_X10_twoWayLiness L j1 x1_1 = x1_1 + 1 from by rw [L1_X10_twoWayLiness, if_pos c5]).symm) _ _ _ hW (lv_sub hl [0, 1, 2] rfl)
  exact loop1 (lc + 1) 0 (0 : Int32) (by omega) (by omega) rfl _ _ _ hW (lv_sub hl [0, 1, 2] rfl)

def L1_X0_slowests (tm : Nat → Int32) (s_ : Int32) (j1 : Nat) (x3_1 : Int32) (x2_1 : Int32) : Int32 × Int32 := if hasv s_ (nI j1) = 0 then ((x3_1, x2_1)) else (if tm j1 ≤ x3_1 then ((x3_1, x2_1)) else ((tm j1, nI j1)))
def L1_X0_slowest (tm : Nat → Int32) (s_ : Int32) (i0_ : Int32) (i1_ : Int32) : Nat → Int32 × Int32
  | 0 => (i0_, i1_)
  | k_ + 1 => L1_X0_slowests tm s_ k_ ((L1_X0_slowest tm s_ i0_ i1_ k_).1) ((L1_X0_slowest tm s_ i0_ i1_ k_).2)
def F_X0_slowest (tm : Nat → Int32) (s_ : Int32) : Int32 := ((L1_X0_slowest tm s_ (-1 : Int32) (0 : Int32) 7).2)
set_option maxHeartbeats 4000000 in
set_option maxRecDepth 100000 in
theorem K_X0_slowest (l : Launch) (g : GG) (gv : Value) (y0 : Nat) (yc : Nat) (yt : Nat) (yh : Nat) (yo : Nat) (kn : Int32) (on : Int32) (tm : Nat → Int32) (s_ : Int32)  : MetI l g yX0_slowest cX0_slowest 5 (some .int) 1 0 0 [.ref y0, .int s_] [(y0, .inr (0, [gv, .int kn, .int on, .ref yc, .ref yt, .ref yh, .ref yo])), (yt, .inl (g.2.1 1, 7, .inl tm))] (fun r u => r = (F_X0_slowest tm s_) ∧ u = [(y0, .inr (0, [gv, .int kn, .int on, .ref yc, .ref yt, .ref yh, .ref yo])), (yt, .inl (g.2.1 1, 7, .inl tm))]) := by
  refine MetI.of (own := RX0) rfl (by decide) (Nat.le_of_ble_eq_true rfl) ?_
  intro p e s m below meth c A ls args Q hQ X hr hin hW hl
  have hx := X.1
  have hb := X.2.1
  have hl : lv_has ls 5 [(0, .ref y0), (1, .int s_)] := hl
  refine lv_iconst (v := 0) (pc := 0) hx hb dX0_slowest_0 (by decide) ?_
  refine lv_istore_n (lv' := [(2, .int 0), (0, .ref y0), (1, .int s_)]) (pc := 1) hx hb dX0_slowest_1 rfl hl (by decide) rfl (fun ls hl => ?_)
  refine lv_iconst (v := (-1)) (pc := 2) hx hb dX0_slowest_2 (by decide) ?_
  refine lv_istore_n (lv' := [(3, .int (-1)), (2, .int 0), (0, .ref y0), (1, .int s_)]) (pc := 3) hx hb dX0_slowest_3 rfl hl (by decide) rfl (fun ls hl => ?_)
  refine lv_iconst (v := 0) (pc := 4) hx hb dX0_slowest_4 (by decide) ?_
  refine lv_istore (lv' := [(4, .int 0), (3, .int (-1)), (2, .int 0), (0, .ref y0), (1, .int s_)]) (pc := 5) hx hb dX0_slowest_5 hl (by decide) rfl (fun ls hl => ?_)
  have loop1 : ∀ (fu1 : Nat) (j1 : Nat) (x3_1 : Int32) (x2_1 : Int32), (7 < fu1 + j1) → (j1 ≤ 7) → ((x3_1, x2_1) = L1_X0_slowest tm s_ (-1 : Int32) (0 : Int32) j1) → ∀ (H : Heap) (locs : List Loc) (ls : Array Slot), WD g A s H locs [(y0, .inr (0, [gv, .int kn, .int on, .ref yc, .ref yt, .ref yh, .ref yo])), (yt, .inl (g.2.1 1, 7, .inl tm))] → lv_has ls 5 [(4, .int (nI j1)), (3, .int x3_1), (2, .int x2_1), (0, .ref y0), (1, .int s_)] → W p l e (RM 1 0 0) s m args below meth c H locs 0 0 Q (F0 m 7 ls []) := by
    intro fu1
    induction fu1 with
    | zero =>
      intro j1 x3_1 x2_1 hm1 hj1 hst1
      exact absurd hm1 (by omega)
    | succ fu1 ih1 =>
      intro j1 x3_1 x2_1 hm1 hj1 hst1 H locs ls hW hl
      refine lv_iload (pc := 7) hx hb dX0_slowest_7 (lv_at hl 0 rfl) ?_
      refine lv_bipush (v := 7) (pc := 9) hx hb dX0_slowest_9 (by decide) ?_
      refine lv_icmp_ge (tgt := 51) (pc := 11) hx hb dX0_slowest_11 rfl (fun c1 => ?_) (fun c1 => ?_)
      · have h2 : 7 ≤ j1 := (nI_leI (a := 7) (b := j1) (by omega) (by omega)).mp c1
        have hN1 : j1 = 7 := by omega
        rw [hN1] at hst1
        have hs1_0 : x3_1 = (L1_X0_slowest tm s_ (-1 : Int32) (0 : Int32) 7).1 := congrArg (fun z => z.1) hst1
        have hs1_1 : x2_1 = (L1_X0_slowest tm s_ (-1 : Int32) (0 : Int32) 7).2 := congrArg (fun z => z.2) hst1
        clear hst1
        subst hs1_0
        subst hs1_1
        have hW : WD g A s _ _ [(y0, .inr (0, [gv, .int kn, .int on, .ref yc, .ref yt, .ref yh, .ref yo])), (yt, .inl (g.2.1 1, 7, .inl tm))] := hW
        refine lv_iload_n (pc := 51) hx hb dX0_slowest_51 rfl (lv_at hl 2 rfl) ?_
        have hF : F_X0_slowest tm s_ = ((L1_X0_slowest tm s_ (-1 : Int32) (0 : Int32) 7).2) := show F_X0_slowest tm s_ = ((L1_X0_slowest tm s_ (-1 : Int32) (0 : Int32) 7).2) from rfl
        exact e_i (u := [(y0, .inr (0, [gv, .int kn, .int on, .ref yc, .ref yt, .ref yh, .ref yo])), (yt, .inl (g.2.1 1, 7, .inl tm))]) X hQ hr (hW) [0, 1] rfl rfl (⟨hF.symm, rfl⟩) ⟨Nat.le_of_ble_eq_true rfl, Nat.le_of_ble_eq_true rfl⟩ dX0_slowest_52
      · have h3 : ¬ (7 ≤ j1) := fun q => c1 ((nI_leI (a := 7) (b := j1) (by omega) (by omega)).mpr q)
        refine lv_iload_n (pc := 14) hx hb dX0_slowest_14 rfl (lv_at hl 4 rfl) ?_
        refine lv_iload (pc := 15) hx hb dX0_slowest_15 (lv_at hl 0 rfl) ?_
        refine c_SNi (pc := 17) (As := [.int s_, .int (nI j1)]) (rest := []) (wr := [(y0, .inr (0, [gv, .int kn, .int on, .ref yc, .ref yt, .ref yh, .ref yo])), (yt, .inl (g.2.1 1, 7, .inl tm))]) X hW (C_X11_has l g s_ (nI j1)) vX0_54 [] [0, 1] rfl rfl rfl rfl rfl rfl hl.1 rfl (Nat.le_of_ble_eq_true rfl) ⟨Nat.le_of_ble_eq_true rfl, Nat.le_of_ble_eq_true rfl⟩ ⟨Nat.le_of_ble_eq_true rfl, Nat.le_of_ble_eq_true rfl⟩ dX0_slowest_17 (fun r4 u9 H locs hq hW => ?_)
        obtain ⟨rfl, rfl⟩ := hq
        have hW : WD g A s _ _ [(y0, .inr (0, [gv, .int kn, .int on, .ref yc, .ref yt, .ref yh, .ref yo])), (yt, .inl (g.2.1 1, 7, .inl tm))] := hW
        refine lv_if_eq (tgt := 45) (pc := 20) hx hb dX0_slowest_20 rfl (fun c5 => ?_) (fun c5 => ?_)
        · refine lv_iinc (v := nI (j1 + 1)) (lv' := [(4, .int (nI (j1 + 1))), (3, .int x3_1), (2, .int x2_1), (0, .ref y0), (1, .int s_)]) (pc := 45) hx hb dX0_slowest_45 hl (k := 0) rfl (nI_add j1 1) (by decide) rfl (fun ls hl => ?_)
          refine lv_goto (tgt := 7) (pc := 48) hx hb dX0_slowest_48 rfl ?_
          exact ih1 (j1 + 1) x3_1 x2_1 (by omega) (by omega) (by rw [L1_X0_slowest, ← hst1]; exact (show L1_X0_slowests tm s_ j1 x3_1 x2_1 = (x3_1, x2_1) from by rw [L1_X0_slowests, if_pos c5]).symm) _ _ _ hW (lv_sub hl [0, 1, 2, 3, 4] rfl)
        · refine lv_aload_n (pc := 23) hx hb dX0_slowest_23 rfl (lv_at hl 3 rfl) ?_
          refine r_get X hW 0 ciX0 4 rfl (by decide) m_234 rfl rfl dX0_slowest_24 ?_
          refine lv_iload (pc := 27) hx hb dX0_slowest_27 (lv_at hl 0 rfl) ?_
          refine r_iald X hW 1 rfl (vp_in_nI (by omega) (by decide)) dX0_slowest_29 ?_
          refine lv_topi (fun v8 ev8 => ?_)
          obtain rfl : v8 = tm j1 := ev8.trans (by rw [nI_clamp (by omega)])
          refine lv_iload_n (pc := 30) hx hb dX0_slowest_30 rfl (lv_at hl 1 rfl) ?_
          refine lv_icmp_le (tgt := 45) (pc := 31) hx hb dX0_slowest_31 rfl (fun c9 => ?_) (fun c9 => ?_)
          · refine lv_iinc (v := nI (j1 + 1)) (lv' := [(4, .int (nI (j1 + 1))), (3, .int x3_1), (2, .int x2_1), (0, .ref y0), (1, .int s_)]) (pc := 45) hx hb dX0_slowest_45 hl (k := 0) rfl (nI_add j1 1) (by decide) rfl (fun ls hl => ?_)
            refine lv_goto (tgt := 7) (pc := 48) hx hb dX0_slowest_48 rfl ?_
            exact ih1 (j1 + 1) x3_1 x2_1 (by omega) (by omega) (by rw [L1_X0_slowest, ← hst1]; exact (show L1_X0_slowests tm s_ j1 x3_1 x2_1 = (x3_1, x2_1) from by rw [L1_X0_slowests, if_neg c5, if_pos c9]).symm) _ _ _ hW (lv_sub hl [0, 1, 2, 3, 4] rfl)
          · refine lv_aload_n (pc := 34) hx hb dX0_slowest_34 rfl (lv_at hl 3 rfl) ?_
            refine r_get X hW 0 ciX0 4 rfl (by decide) m_234 rfl rfl dX0_slowest_35 ?_
            refine lv_iload (pc := 38) hx hb dX0_slowest_38 (lv_at hl 0 rfl) ?_
            refine r_iald X hW 1 rfl (vp_in_nI (by omega) (by decide)) dX0_slowest_40 ?_
            refine lv_topi (fun v12 ev12 => ?_)
            obtain rfl : v12 = tm j1 := ev12.trans (by rw [nI_clamp (by omega)])
            refine lv_istore_n (lv' := [(3, .int (tm j1)), (4, .int (nI j1)), (2, .int x2_1), (0, .ref y0), (1, .int s_)]) (pc := 41) hx hb dX0_slowest_41 rfl hl (by decide) rfl (fun ls hl => ?_)
            refine lv_iload (pc := 42) hx hb dX0_slowest_42 (lv_at hl 1 rfl) ?_
            refine lv_istore_n (lv' := [(2, .int (nI j1)), (3, .int (tm j1)), (4, .int (nI j1)), (0, .ref y0), (1, .int s_)]) (pc := 44) hx hb dX0_slowest_44 rfl hl (by decide) rfl (fun ls hl => ?_)
            refine lv_iinc (v := nI (j1 + 1)) (lv' := [(4, .int (nI (j1 + 1))), (2, .int (nI j1)), (3, .int (tm j1)), (0, .ref y0), (1, .int s_)]) (pc := 45) hx hb dX0_slowest_45 hl (k := 2) rfl (nI_add j1 1) (by decide) rfl (fun ls hl => ?_)
            refine lv_goto (tgt := 7) (pc := 48) hx hb dX0_slowest_48 rfl ?_
            exact ih1 (j1 + 1) (tm j1) (nI j1) (by omega) (by omega) (by rw [L1_X0_slowest, ← hst1]; exact (show L1_X0_slowests tm s_ j1 x3_1 x2_1 = (tm j1, nI j1) from by rw [L1_X0_slowests, if_neg c5, if_neg c9]).symm) _ _ _ hW (lv_sub hl [0, 2, 1, 3, 4] rfl)
  exact loop1 (7 + 1) 0 (-1 : Int32) (0 : Int32) (by omega) (by omega) rfl _ _ _ hW (lv_sub hl [0, 1, 2, 3, 4] rfl)

theorem slo_lt {tm : Nat → Int32} {s_ i0 : Int32} : ∀ k : Nat, k ≤ 7 → (L1_X0_slowest tm s_ i0 0 k).2 = nI (tN (L1_X0_slowest tm s_ i0 0 k).2) ∧ tN (L1_X0_slowest tm s_ i0 0 k).2 < 7
  | 0, _ => ⟨rfl, by show 0 < 7; omega⟩
  | k + 1, hk => by
    have ih := slo_lt (tm := tm) (s_ := s_) (i0 := i0) k (by omega)
    have e : L1_X0_slowest tm s_ i0 0 (k + 1) = L1_X0_slowests tm s_ k (L1_X0_slowest tm s_ i0 0 k).1 (L1_X0_slowest tm s_ i0 0 k).2 := rfl
    rw [e]
    generalize L1_X0_slowest tm s_ i0 0 k = s at ih ⊢
    unfold L1_X0_slowests
    split
    · exact ih
    · split
      · exact ih
      · exact ⟨by rw [tN_nI (by omega)], by rw [tN_nI (by omega)]; omega⟩
theorem slo_at {tm : Nat → Int32} {s_ : Int32} : F_X0_slowest tm s_ = nI (tN (F_X0_slowest tm s_)) ∧ tN (F_X0_slowest tm s_) < 7 := slo_lt 7 (Nat.le_refl _)
def mx2 (x y : Int32) : Int32 := if x < y then y else x
def L1_X0_timeOf (tm : Nat → Int32) : Nat → Nat → Int32 → Int32 → Int32
  | 0, _, _, _ => (0)
  | m_ + 1, j1, x3_1, x2_1 => if x3_1 = 0 then (x2_1) else (if 7 ≤ nI (j1 + 1) then (x2_1) else (L1_X0_timeOf tm m_ (j1 + 1) (x3_1 &&& (((1 : Int32) <<< ((nI (tN (F_X0_slowest tm x3_1))) &&& 31)) ^^^ (-1 : Int32))) (mx2 x2_1 ((nI (j1 + 1)) + (tm (tN (F_X0_slowest tm x3_1)))))))
def F_X0_timeOf (tm : Nat → Int32) (ch : Nat → Int32) (o : Nat) : Int32 := L1_X0_timeOf tm (6 + 1) 0 (ch o) (0 : Int32)
set_option maxHeartbeats 4000000 in
set_option maxRecDepth 100000 in
theorem K_X0_timeOf (l : Launch) (g : GG) (gv : Value) (y0 : Nat) (yc : Nat) (yt : Nat) (yh : Nat) (yo : Nat) (kn : Int32) (on : Int32) (tm : Nat → Int32) (ch : Nat → Int32) (o : Nat) (ho : o < 7) : MetI l g yX0_timeOf cX0_timeOf 6 (some .int) 2 0 0 [.ref y0, .int (nI o)] [(y0, .inr (0, [gv, .int kn, .int on, .ref yc, .ref yt, .ref yh, .ref yo])), (yt, .inl (g.2.1 1, 7, .inl tm)), (yh, .inl (g.2.1 1, 7, .inl ch))] (fun r u => r = (F_X0_timeOf tm ch o) ∧ u = [(y0, .inr (0, [gv, .int kn, .int on, .ref yc, .ref yt, .ref yh, .ref yo])), (yt, .inl (g.2.1 1, 7, .inl tm)), (yh, .inl (g.2.1 1, 7, .inl ch))]) := by
  refine MetI.of (own := RX0) rfl (by decide) (Nat.le_of_ble_eq_true rfl) ?_
  intro p e s m below meth c A ls args Q hQ X hr hin hW hl
  have hx := X.1
  have hb := X.2.1
  have hl : lv_has ls 6 [(0, .ref y0), (1, .int (nI o))] := hl
  refine lv_iconst (v := 0) (pc := 0) hx hb dX0_timeOf_0 (by decide) ?_
  refine lv_istore_n (lv' := [(2, .int 0), (0, .ref y0), (1, .int (nI o))]) (pc := 1) hx hb dX0_timeOf_1 rfl hl (by decide) rfl (fun ls hl => ?_)
  refine lv_aload_n (pc := 2) hx hb dX0_timeOf_2 rfl (lv_at hl 1 rfl) ?_
  refine r_get X hW 0 ciX0 5 rfl (by decide) m_236 rfl rfl dX0_timeOf_3 ?_
  refine lv_iload_n (pc := 6) hx hb dX0_timeOf_6 rfl (lv_at hl 2 rfl) ?_
  refine r_iald X hW 2 rfl (vp_in_nI (by omega) (by decide)) dX0_timeOf_7 ?_
  refine lv_topi (fun v1 ev1 => ?_)
  obtain rfl : v1 = ch o := ev1.trans (by rw [nI_clamp (by omega)])
  refine lv_istore_n (lv' := [(3, .int (ch o)), (2, .int 0), (0, .ref y0), (1, .int (nI o))]) (pc := 8) hx hb dX0_timeOf_8 rfl hl (by decide) rfl (fun ls hl => ?_)
  refine lv_iconst (v := 1) (pc := 9) hx hb dX0_timeOf_9 (by decide) ?_
  refine lv_istore (lv' := [(4, .int 1), (3, .int (ch o)), (2, .int 0), (0, .ref y0), (1, .int (nI o))]) (pc := 10) hx hb dX0_timeOf_10 hl (by decide) rfl (fun ls hl => ?_)
  have loop1 : ∀ (fu1 : Nat) (j1 : Nat) (x3_1 : Int32) (x2_1 : Int32), (6 < fu1 + j1) → (j1 ≤ 6) → (L1_X0_timeOf tm fu1 j1 x3_1 x2_1 = F_X0_timeOf tm ch o) → ∀ (H : Heap) (locs : List Loc) (ls : Array Slot), WD g A s H locs [(y0, .inr (0, [gv, .int kn, .int on, .ref yc, .ref yt, .ref yh, .ref yo])), (yt, .inl (g.2.1 1, 7, .inl tm)), (yh, .inl (g.2.1 1, 7, .inl ch))] → lv_has ls 6 [(4, .int (nI (j1 + 1))), (3, .int x3_1), (2, .int x2_1), (0, .ref y0), (1, .int (nI o))] → W p l e (RM 2 0 0) s m args below meth c H locs 0 0 Q (F0 m 12 ls []) := by
    intro fu1
    induction fu1 with
    | zero =>
      intro j1 x3_1 x2_1 hm1 hj1 hst1
      exact absurd hm1 (by omega)
    | succ fu1 ih1 =>
      intro j1 x3_1 x2_1 hm1 hj1 hst1 H locs ls hW hl
      refine lv_iload_n (pc := 12) hx hb dX0_timeOf_12 rfl (lv_at hl 1 rfl) ?_
      refine lv_if_eq (tgt := 60) (pc := 13) hx hb dX0_timeOf_13 rfl (fun c2 => ?_) (fun c2 => ?_)
      · refine lv_iload_n (pc := 60) hx hb dX0_timeOf_60 rfl (lv_at hl 2 rfl) ?_
        have hF : F_X0_timeOf tm ch o = x2_1 := hst1.symm.trans (show L1_X0_timeOf tm (fu1 + 1) j1 x3_1 x2_1 = x2_1 from by rw [L1_X0_timeOf, if_pos c2])
        exact e_i (u := [(y0, .inr (0, [gv, .int kn, .int on, .ref yc, .ref yt, .ref yh, .ref yo])), (yt, .inl (g.2.1 1, 7, .inl tm)), (yh, .inl (g.2.1 1, 7, .inl ch))]) X hQ hr (hW) [0, 1, 2] rfl rfl (⟨hF.symm, rfl⟩) ⟨Nat.le_of_ble_eq_true rfl, Nat.le_of_ble_eq_true rfl⟩ dX0_timeOf_61
      · refine lv_iload (pc := 16) hx hb dX0_timeOf_16 (lv_at hl 0 rfl) ?_
        refine lv_bipush (v := 7) (pc := 18) hx hb dX0_timeOf_18 (by decide) ?_
        refine lv_icmp_ge (tgt := 60) (pc := 20) hx hb dX0_timeOf_20 rfl (fun c5 => ?_) (fun c5 => ?_)
        · have h6 : 7 ≤ (j1 + 1) := (nI_leI (a := 7) (b := (j1 + 1)) (by omega) (by omega)).mp c5
          refine lv_iload_n (pc := 60) hx hb dX0_timeOf_60 rfl (lv_at hl 2 rfl) ?_
          have hF : F_X0_timeOf tm ch o = x2_1 := hst1.symm.trans (show L1_X0_timeOf tm (fu1 + 1) j1 x3_1 x2_1 = x2_1 from by rw [L1_X0_timeOf, if_neg c2, if_pos c5])
          exact e_i (u := [(y0, .inr (0, [gv, .int kn, .int on, .ref yc, .ref yt, .ref yh, .ref yo])), (yt, .inl (g.2.1 1, 7, .inl tm)), (yh, .inl (g.2.1 1, 7, .inl ch))]) X hQ hr (hW) [0, 1, 2] rfl rfl (⟨hF.symm, rfl⟩) ⟨Nat.le_of_ble_eq_true rfl, Nat.le_of_ble_eq_true rfl⟩ dX0_timeOf_61
        · have h7 : ¬ (7 ≤ (j1 + 1)) := fun q => c5 ((nI_leI (a := 7) (b := (j1 + 1)) (by omega) (by omega)).mpr q)
          refine lv_aload_n (pc := 23) hx hb dX0_timeOf_23 rfl (lv_at hl 3 rfl) ?_
          refine lv_iload_n (pc := 24) hx hb dX0_timeOf_24 rfl (lv_at hl 1 rfl) ?_
          refine c_Vi (pc := 25) (As := [.int x3_1]) (rest := []) (wr := [(yh, .inl (g.2.1 1, 7, .inl ch))]) X hW 0 ciX0 rfl (K_X0_slowest l g gv y0 yc yt yh yo kn on tm x3_1) vX0_82 [0, 1] [2] rfl rfl rfl rfl rfl rfl hl.1 rfl (Nat.le_of_ble_eq_true rfl) ⟨Nat.le_of_ble_eq_true rfl, Nat.le_of_ble_eq_true rfl⟩ ⟨Nat.le_of_ble_eq_true rfl, Nat.le_of_ble_eq_true rfl⟩ dX0_timeOf_25 (fun r8 u9 H locs hq hW => ?_)
          obtain ⟨rfl, rfl⟩ := hq
          have hW : WD g A s _ _ [(yh, .inl (g.2.1 1, 7, .inl ch)), (y0, .inr (0, [gv, .int kn, .int on, .ref yc, .ref yt, .ref yh, .ref yo])), (yt, .inl (g.2.1 1, 7, .inl tm))] := hW
          have hsl := slo_at (tm := tm) (s_ := x3_1)
          have hsl2 := hsl.2
          rw [hsl.1]
          refine lv_istore (lv' := [(5, .int (nI (tN (F_X0_slowest tm x3_1)))), (4, .int (nI (j1 + 1))), (3, .int x3_1), (2, .int x2_1), (0, .ref y0), (1, .int (nI o))]) (pc := 28) hx hb dX0_timeOf_28 hl (by decide) rfl (fun ls hl => ?_)
          refine lv_iload_n (pc := 30) hx hb dX0_timeOf_30 rfl (lv_at hl 3 rfl) ?_
          refine lv_iload (pc := 31) hx hb dX0_timeOf_31 (lv_at hl 1 rfl) ?_
          refine lv_aload_n (pc := 33) hx hb dX0_timeOf_33 rfl (lv_at hl 4 rfl) ?_
          refine r_get X hW 1 ciX0 4 rfl (by decide) m_234 rfl rfl dX0_timeOf_34 ?_
          refine lv_iload (pc := 37) hx hb dX0_timeOf_37 (lv_at hl 0 rfl) ?_
          refine r_iald X hW 2 rfl (vp_in_nI (by omega) (by decide)) dX0_timeOf_39 ?_
          refine lv_topi (fun v9 ev9 => ?_)
          obtain rfl : v9 = tm (tN (F_X0_slowest tm x3_1)) := ev9.trans (by rw [nI_clamp (by omega)])
          refine lv_iadd (pc := 40) hx hb dX0_timeOf_40 ?_
          refine va_mmax (pc := 41) hx hb (X.2.2.1.trans hl.1.symm) X.2.2.2.1 (X.2.2.2.2.1 _ mm_X0_41) (X.2.2.2.2.1 _ mms_max) (X.2.2.2.2.1 _ m_19) (X.2.2.2.2.1 _ mmc_max) (Nat.le_of_ble_eq_true rfl) (Nat.le_of_ble_eq_true rfl) (Nat.le_of_ble_eq_true rfl) (Nat.le_of_ble_eq_true rfl) dX0_timeOf_41 ?_
          refine lv_topi (fun v10 ev10 => ?_)
          obtain rfl : v10 = mx2 x2_1 ((nI (j1 + 1)) + (tm (tN (F_X0_slowest tm x3_1)))) := ev10.trans (rfl)
          refine lv_istore_n (lv' := [(2, .int (mx2 x2_1 ((nI (j1 + 1)) + (tm (tN (F_X0_slowest tm x3_1)))))), (5, .int (nI (tN (F_X0_slowest tm x3_1)))), (4, .int (nI (j1 + 1))), (3, .int x3_1), (0, .ref y0), (1, .int (nI o))]) (pc := 44) hx hb dX0_timeOf_44 rfl hl (by decide) rfl (fun ls hl => ?_)
          refine lv_iload_n (pc := 45) hx hb dX0_timeOf_45 rfl (lv_at hl 3 rfl) ?_
          refine lv_iconst (v := 1) (pc := 46) hx hb dX0_timeOf_46 (by decide) ?_
          refine lv_iload (pc := 47) hx hb dX0_timeOf_47 (lv_at hl 1 rfl) ?_
          refine lv_ishl (pc := 49) hx hb dX0_timeOf_49 ?_
          refine lv_iconst (v := (-1)) (pc := 50) hx hb dX0_timeOf_50 (by decide) ?_
          refine lv_ixor (pc := 51) hx hb dX0_timeOf_51 ?_
          refine lv_iand (pc := 52) hx hb dX0_timeOf_52 ?_
          refine lv_istore_n (lv' := [(3, .int (x3_1 &&& (((1 : Int32) <<< ((nI (tN (F_X0_slowest tm x3_1))) &&& 31)) ^^^ (-1 : Int32)))), (2, .int (mx2 x2_1 ((nI (j1 + 1)) + (tm (tN (F_X0_slowest tm x3_1)))))), (5, .int (nI (tN (F_X0_slowest tm x3_1)))), (4, .int (nI (j1 + 1))), (0, .ref y0), (1, .int (nI o))]) (pc := 53) hx hb dX0_timeOf_53 rfl hl (by decide) rfl (fun ls hl => ?_)
          refine lv_iinc (v := nI (j1 + 1 + 1)) (lv' := [(4, .int (nI (j1 + 1 + 1))), (3, .int (x3_1 &&& (((1 : Int32) <<< ((nI (tN (F_X0_slowest tm x3_1))) &&& 31)) ^^^ (-1 : Int32)))), (2, .int (mx2 x2_1 ((nI (j1 + 1)) + (tm (tN (F_X0_slowest tm x3_1)))))), (5, .int (nI (tN (F_X0_slowest tm x3_1)))), (0, .ref y0), (1, .int (nI o))]) (pc := 54) hx hb dX0_timeOf_54 hl (k := 3) rfl (nI_add (j1 + 1) 1) (by decide) rfl (fun ls hl => ?_)
          refine lv_goto (tgt := 12) (pc := 57) hx hb dX0_timeOf_57 rfl ?_
          have hW : WD g A s _ _ [(y0, .inr (0, [gv, .int kn, .int on, .ref yc, .ref yt, .ref yh, .ref yo])), (yt, .inl (g.2.1 1, 7, .inl tm)), (yh, .inl (g.2.1 1, 7, .inl ch))] := hW.pick [1, 2, 0] rfl rfl
          exact ih1 (j1 + 1) (x3_1 &&& (((1 : Int32) <<< ((nI (tN (F_X0_slowest tm x3_1))) &&& 31)) ^^^ (-1 : Int32))) (mx2 x2_1 ((nI (j1 + 1)) + (tm (tN (F_X0_slowest tm x3_1))))) (by omega) (by omega) ((show L1_X0_timeOf tm (fu1 + 1) j1 x3_1 x2_1 = L1_X0_timeOf tm fu1 (j1 + 1) (x3_1 &&& (((1 : Int32) <<< ((nI (tN (F_X0_slowest tm x3_1))) &&& 31)) ^^^ (-1 : Int32))) (mx2 x2_1 ((nI (j1 + 1)) + (tm (tN (F_X0_slowest tm x3_1))))) from by rw [L1_X0_timeOf, if_neg c2, if_neg c5]).symm.trans hst1) _ _ _ hW (lv_sub hl [0, 1, 2, 4, 5] rfl)
  exact loop1 (6 + 1) 0 (ch o) (0 : Int32) (by omega) (by omega) (show F_X0_timeOf tm ch o = L1_X0_timeOf tm (6 + 1) 0 (ch o) (0 : Int32) from rfl).symm _ _ _ hW (lv_sub hl [0, 1, 2, 3, 4] rfl)

def L1_X0_below (tm : Nat → Int32) (i_ : Int32) : Nat → Nat → Int32 → Int32
  | 0, _, _ => (0)
  | m_ + 1, j1, x3_1 => if x3_1 = 0 then ((-1 : Int32)) else (if 7 ≤ nI j1 then ((-1 : Int32)) else (if nI j1 = i_ then (nI (tN (F_X0_slowest tm x3_1))) else (L1_X0_below tm i_ m_ (j1 + 1) (x3_1 &&& (((1 : Int32) <<< ((nI (tN (F_X0_slowest tm x3_1))) &&& 31)) ^^^ (-1 : Int32))))))
def F_X0_below (tm : Nat → Int32) (ch : Nat → Int32) (o : Nat) (i_ : Int32) : Int32 := L1_X0_below tm i_ (7 + 1) 0 (ch o)
set_option maxHeartbeats 4000000 in
set_option maxRecDepth 100000 in
theorem K_X0_below (l : Launch) (g : GG) (gv : Value) (y0 : Nat) (yc : Nat) (yt : Nat) (yh : Nat) (yo : Nat) (kn : Int32) (on : Int32) (tm : Nat → Int32) (ch : Nat → Int32) (o : Nat) (i_ : Int32) (ho : o < 7) : MetI l g yX0_below cX0_below 6 (some .int) 2 0 0 [.ref y0, .int (nI o), .int i_] [(y0, .inr (0, [gv, .int kn, .int on, .ref yc, .ref yt, .ref yh, .ref yo])), (yt, .inl (g.2.1 1, 7, .inl tm)), (yh, .inl (g.2.1 1, 7, .inl ch))] (fun r u => r = (F_X0_below tm ch o i_) ∧ u = [(y0, .inr (0, [gv, .int kn, .int on, .ref yc, .ref yt, .ref yh, .ref yo])), (yt, .inl (g.2.1 1, 7, .inl tm)), (yh, .inl (g.2.1 1, 7, .inl ch))]) := by
  refine MetI.of (own := RX0) rfl (by decide) (Nat.le_of_ble_eq_true rfl) ?_
  intro p e s m below meth c A ls args Q hQ X hr hin hW hl
  have hx := X.1
  have hb := X.2.1
  have hl : lv_has ls 6 [(0, .ref y0), (1, .int (nI o)), (2, .int i_)] := hl
  refine lv_aload_n (pc := 0) hx hb dX0_below_0 rfl (lv_at hl 0 rfl) ?_
  refine r_get X hW 0 ciX0 5 rfl (by decide) m_236 rfl rfl dX0_below_1 ?_
  refine lv_iload_n (pc := 4) hx hb dX0_below_4 rfl (lv_at hl 1 rfl) ?_
  refine r_iald X hW 2 rfl (vp_in_nI (by omega) (by decide)) dX0_below_5 ?_
  refine lv_topi (fun v1 ev1 => ?_)
  obtain rfl : v1 = ch o := ev1.trans (by rw [nI_clamp (by omega)])
  refine lv_istore_n (lv' := [(3, .int (ch o)), (0, .ref y0), (1, .int (nI o)), (2, .int i_)]) (pc := 6) hx hb dX0_below_6 rfl hl (by decide) rfl (fun ls hl => ?_)
  refine lv_iconst (v := 0) (pc := 7) hx hb dX0_below_7 (by decide) ?_
  refine lv_istore (lv' := [(4, .int 0), (3, .int (ch o)), (0, .ref y0), (1, .int (nI o)), (2, .int i_)]) (pc := 8) hx hb dX0_below_8 hl (by decide) rfl (fun ls hl => ?_)
  have loop1 : ∀ (fu1 : Nat) (j1 : Nat) (x3_1 : Int32), (7 < fu1 + j1) → (j1 ≤ 7) → (L1_X0_below tm i_ fu1 j1 x3_1 = F_X0_below tm ch o i_) → ∀ (H : Heap) (locs : List Loc) (ls : Array Slot), WD g A s H locs [(y0, .inr (0, [gv, .int kn, .int on, .ref yc, .ref yt, .ref yh, .ref yo])), (yt, .inl (g.2.1 1, 7, .inl tm)), (yh, .inl (g.2.1 1, 7, .inl ch))] → lv_has ls 6 [(4, .int (nI j1)), (3, .int x3_1), (0, .ref y0), (1, .int (nI o)), (2, .int i_)] → W p l e (RM 2 0 0) s m args below meth c H locs 0 0 Q (F0 m 10 ls []) := by
    intro fu1
    induction fu1 with
    | zero =>
      intro j1 x3_1 hm1 hj1 hst1
      exact absurd hm1 (by omega)
    | succ fu1 ih1 =>
      intro j1 x3_1 hm1 hj1 hst1 H locs ls hW hl
      refine lv_iload_n (pc := 10) hx hb dX0_below_10 rfl (lv_at hl 1 rfl) ?_
      refine lv_if_eq (tgt := 52) (pc := 11) hx hb dX0_below_11 rfl (fun c2 => ?_) (fun c2 => ?_)
      · refine lv_iconst (v := (-1)) (pc := 52) hx hb dX0_below_52 (by decide) ?_
        have hF : F_X0_below tm ch o i_ = (-1 : Int32) := hst1.symm.trans (show L1_X0_below tm i_ (fu1 + 1) j1 x3_1 = (-1 : Int32) from by rw [L1_X0_below, if_pos c2])
        exact e_i (u := [(y0, .inr (0, [gv, .int kn, .int on, .ref yc, .ref yt, .ref yh, .ref yo])), (yt, .inl (g.2.1 1, 7, .inl tm)), (yh, .inl (g.2.1 1, 7, .inl ch))]) X hQ hr (hW) [0, 1, 2] rfl rfl (⟨hF.symm, rfl⟩) ⟨Nat.le_of_ble_eq_true rfl, Nat.le_of_ble_eq_true rfl⟩ dX0_below_53
      · refine lv_iload (pc := 14) hx hb dX0_below_14 (lv_at hl 0 rfl) ?_
        refine lv_bipush (v := 7) (pc := 16) hx hb dX0_below_16 (by decide) ?_
        refine lv_icmp_ge (tgt := 52) (pc := 18) hx hb dX0_below_18 rfl (fun c5 => ?_) (fun c5 => ?_)
        · have h6 : 7 ≤ j1 := (nI_leI (a := 7) (b := j1) (by omega) (by omega)).mp c5
          refine lv_iconst (v := (-1)) (pc := 52) hx hb dX0_below_52 (by decide) ?_
          have hF : F_X0_below tm ch o i_ = (-1 : Int32) := hst1.symm.trans (show L1_X0_below tm i_ (fu1 + 1) j1 x3_1 = (-1 : Int32) from by rw [L1_X0_below, if_neg c2, if_pos c5])
          exact e_i (u := [(y0, .inr (0, [gv, .int kn, .int on, .ref yc, .ref yt, .ref yh, .ref yo])), (yt, .inl (g.2.1 1, 7, .inl tm)), (yh, .inl (g.2.1 1, 7, .inl ch))]) X hQ hr (hW) [0, 1, 2] rfl rfl (⟨hF.symm, rfl⟩) ⟨Nat.le_of_ble_eq_true rfl, Nat.le_of_ble_eq_true rfl⟩ dX0_below_53
        · have h7 : ¬ (7 ≤ j1) := fun q => c5 ((nI_leI (a := 7) (b := j1) (by omega) (by omega)).mpr q)
          refine lv_aload_n (pc := 21) hx hb dX0_below_21 rfl (lv_at hl 2 rfl) ?_
          refine lv_iload_n (pc := 22) hx hb dX0_below_22 rfl (lv_at hl 1 rfl) ?_
          refine c_Vi (pc := 23) (As := [.int x3_1]) (rest := []) (wr := [(yh, .inl (g.2.1 1, 7, .inl ch))]) X hW 0 ciX0 rfl (K_X0_slowest l g gv y0 yc yt yh yo kn on tm x3_1) vX0_82 [0, 1] [2] rfl rfl rfl rfl rfl rfl hl.1 rfl (Nat.le_of_ble_eq_true rfl) ⟨Nat.le_of_ble_eq_true rfl, Nat.le_of_ble_eq_true rfl⟩ ⟨Nat.le_of_ble_eq_true rfl, Nat.le_of_ble_eq_true rfl⟩ dX0_below_23 (fun r8 u9 H locs hq hW => ?_)
          obtain ⟨rfl, rfl⟩ := hq
          have hW : WD g A s _ _ [(yh, .inl (g.2.1 1, 7, .inl ch)), (y0, .inr (0, [gv, .int kn, .int on, .ref yc, .ref yt, .ref yh, .ref yo])), (yt, .inl (g.2.1 1, 7, .inl tm))] := hW
          have hsl := slo_at (tm := tm) (s_ := x3_1)
          have hsl2 := hsl.2
          rw [hsl.1]
          refine lv_istore (lv' := [(5, .int (nI (tN (F_X0_slowest tm x3_1)))), (4, .int (nI j1)), (3, .int x3_1), (0, .ref y0), (1, .int (nI o)), (2, .int i_)]) (pc := 26) hx hb dX0_below_26 hl (by decide) rfl (fun ls hl => ?_)
          refine lv_iload (pc := 28) hx hb dX0_below_28 (lv_at hl 1 rfl) ?_
          refine lv_iload_n (pc := 30) hx hb dX0_below_30 rfl (lv_at hl 5 rfl) ?_
          refine lv_icmp_ne (tgt := 37) (pc := 31) hx hb dX0_below_31 rfl (fun c9 => ?_) (fun c9 => ?_)
          · refine lv_iload_n (pc := 37) hx hb dX0_below_37 rfl (lv_at hl 2 rfl) ?_
            refine lv_iconst (v := 1) (pc := 38) hx hb dX0_below_38 (by decide) ?_
            refine lv_iload (pc := 39) hx hb dX0_below_39 (lv_at hl 0 rfl) ?_
            refine lv_ishl (pc := 41) hx hb dX0_below_41 ?_
            refine lv_iconst (v := (-1)) (pc := 42) hx hb dX0_below_42 (by decide) ?_
            refine lv_ixor (pc := 43) hx hb dX0_below_43 ?_
            refine lv_iand (pc := 44) hx hb dX0_below_44 ?_
            refine lv_istore_n (lv' := [(3, .int (x3_1 &&& (((1 : Int32) <<< ((nI (tN (F_X0_slowest tm x3_1))) &&& 31)) ^^^ (-1 : Int32)))), (5, .int (nI (tN (F_X0_slowest tm x3_1)))), (4, .int (nI j1)), (0, .ref y0), (1, .int (nI o)), (2, .int i_)]) (pc := 45) hx hb dX0_below_45 rfl hl (by decide) rfl (fun ls hl => ?_)
            refine lv_iinc (v := nI (j1 + 1)) (lv' := [(4, .int (nI (j1 + 1))), (3, .int (x3_1 &&& (((1 : Int32) <<< ((nI (tN (F_X0_slowest tm x3_1))) &&& 31)) ^^^ (-1 : Int32)))), (5, .int (nI (tN (F_X0_slowest tm x3_1)))), (0, .ref y0), (1, .int (nI o)), (2, .int i_)]) (pc := 46) hx hb dX0_below_46 hl (k := 2) rfl (nI_add j1 1) (by decide) rfl (fun ls hl => ?_)
            refine lv_goto (tgt := 10) (pc := 49) hx hb dX0_below_49 rfl ?_
            have hW : WD g A s _ _ [(y0, .inr (0, [gv, .int kn, .int on, .ref yc, .ref yt, .ref yh, .ref yo])), (yt, .inl (g.2.1 1, 7, .inl tm)), (yh, .inl (g.2.1 1, 7, .inl ch))] := hW.pick [1, 2, 0] rfl rfl
            exact ih1 (j1 + 1) (x3_1 &&& (((1 : Int32) <<< ((nI (tN (F_X0_slowest tm x3_1))) &&& 31)) ^^^ (-1 : Int32))) (by omega) (by omega) ((show L1_X0_below tm i_ (fu1 + 1) j1 x3_1 = L1_X0_below tm i_ fu1 (j1 + 1) (x3_1 &&& (((1 : Int32) <<< ((nI (tN (F_X0_slowest tm x3_1))) &&& 31)) ^^^ (-1 : Int32))) from by rw [L1_X0_below, if_neg c2, if_neg c5, if_neg c9]).symm.trans hst1) _ _ _ hW (lv_sub hl [0, 1, 3, 4, 5] rfl)
          · refine lv_iload (pc := 34) hx hb dX0_below_34 (lv_at hl 0 rfl) ?_
            have hF : F_X0_below tm ch o i_ = nI (tN (F_X0_slowest tm x3_1)) := hst1.symm.trans (show L1_X0_below tm i_ (fu1 + 1) j1 x3_1 = nI (tN (F_X0_slowest tm x3_1)) from by rw [L1_X0_below, if_neg c2, if_neg c5, if_pos c9])
            exact e_i (u := [(y0, .inr (0, [gv, .int kn, .int on, .ref yc, .ref yt, .ref yh, .ref yo])), (yt, .inl (g.2.1 1, 7, .inl tm)), (yh, .inl (g.2.1 1, 7, .inl ch))]) X hQ hr (hW) [1, 2, 0] rfl rfl (⟨hF.symm, rfl⟩) ⟨Nat.le_of_ble_eq_true rfl, Nat.le_of_ble_eq_true rfl⟩ dX0_below_36
  exact loop1 (7 + 1) 0 (ch o) (by omega) (by omega) (show F_X0_below tm ch o i_ = L1_X0_below tm i_ (7 + 1) 0 (ch o) from rfl).symm _ _ _ hW (lv_sub hl [0, 1, 2, 3, 4] rfl)

/-- the entries ahead of n are people -/
def OK7 (n : Nat) (f : Nat → Int32) : Prop := ∀ j : Nat, j < n → f j = nI (tN (f j)) ∧ tN (f j) < 7
theorem ok7_up {f : Nat → Int32} {n x : Nat} (h : OK7 n f) (hx : x < 7) : OK7 (n + 1) (upd f n (nI x)) := fun j hj => by
  by_cases e : j = n
  · subst e; rw [upd_eq, tN_nI (by omega)]; exact ⟨rfl, hx⟩
  · rw [upd_ne e]; exact h j (by omega)
theorem ok7_one {f : Nat → Int32} {x : Nat} (hx : x < 7) : OK7 (tN (1 : Int32)) (upd f 0 (nI x)) := by
  rw [show tN (1 : Int32) = 1 from by decide]
  intro j hj
  obtain rfl : j = 0 := by omega
  rw [upd_eq, tN_nI (by omega)]; exact ⟨rfl, hx⟩
theorem in7 {x : Int32} (h : x = nI (tN x)) (hx : tN x < 7) : tN (x + 1) = tN x + 1 ∧ x + 1 = nI (tN (x + 1)) := by
  have e : x + 1 = nI (tN x + 1) := by
    have : nI (tN x) + 1 = nI (tN x + 1) := nI_add (tN x) 1
    rw [← h] at this
    exact this
  have e2 : tN (x + 1) = tN x + 1 := by rw [e, tN_nI (by omega)]
  exact ⟨e2, by rw [e2]; exact e⟩
theorem ct7 {x : Int32} (h : x = nI (tN x)) (hx : tN x < 7) : x + 1 = nI (tN (x + 1)) ∧ tN (x + 1) ≤ 7 ∧ 1 ≤ tN (x + 1) := by
  obtain ⟨a, b⟩ := in7 h hx
  exact ⟨b, by omega, by omega⟩
theorem ok7_in {f : Nat → Int32} {x : Int32} {y : Nat} (h : x = nI (tN x)) (hx : tN x < 7) (hf : OK7 (tN x) f) (hy : y < 7) : OK7 (tN (x + 1)) (upd f (tN x) (nI y)) := by
  rw [(in7 h hx).1]; exact ok7_up hf hy
theorem dn_t {k : Nat} (hk : k < 2 ^ 30) (h : nI k - 1 < 0) : k = 0 := by
  by_cases e : k = 0
  · exact e
  · rw [nI_s1 (by omega)] at h
    exact absurd ((nI_ltI (a := k - 1) (b := 0) (by omega) (by omega)).mp h) (by omega)
theorem dn_f {k : Nat} (h : ¬ nI k - 1 < 0) : 0 < k := by
  by_cases e : k = 0
  · subst e; exact absurd (by decide) h
  · omega
theorem dn_s {a j : Nat} : nI (a - j - 1) + Int32.ofInt (-1) = nI (a - (j + 1)) - 1 := by
  rw [Nat.sub_sub, show Int32.ofInt (-1) = (-1 : Int32) from by decide, Int32.sub_eq_add_neg]
def L2_X0_growTrees (x4_1 : Int32) (fyh_1 : Nat → Int32) (fyo_1 : Nat → Int32) (j2 : Nat) (fyt_2 : Nat → Int32) : (Nat → Int32) := (upd fyt_2 (tN (fyo_1 (tN x4_1 - j2 - 1))) (F_X0_timeOf fyt_2 fyh_1 (tN (fyo_1 (tN x4_1 - j2 - 1)))))
def L2_X0_growTree (x4_1 : Int32) (fyh_1 : Nat → Int32) (fyo_1 : Nat → Int32) (i0_ : Nat → Int32) : Nat → (Nat → Int32)
  | 0 => (i0_)
  | k_ + 1 => L2_X0_growTrees x4_1 fyh_1 fyo_1 k_ (L2_X0_growTree x4_1 fyh_1 fyo_1 i0_ k_)
def L3_X0_growTrees (lc : Nat) (L : Nat → Int32) (j1 : Nat) (x3_1 : Int32) (fyh_1 : Nat → Int32) (fyo_1 : Nat → Int32) (j3 : Nat) (x4_3 : Int32) (fyo_3 : Nat → Int32) : Int32 × (Nat → Int32) := if hasv ((upd fyh_1 (tN (fyo_1 j1)) ((nbs L (nI (tN (fyo_1 j1))) lc) &&& (x3_1 ^^^ (-1 : Int32)))) (tN (fyo_1 j1))) (nI j3) = 0 then ((x4_3, fyo_3)) else (if 7 ≤ nI (tN x4_3) then ((x4_3, fyo_3)) else ((x4_3 + 1, (upd fyo_3 (tN x4_3) (nI j3)))))
def L3_X0_growTree (lc : Nat) (L : Nat → Int32) (j1 : Nat) (x3_1 : Int32) (fyh_1 : Nat → Int32) (fyo_1 : Nat → Int32) (i0_ : Int32) (i1_ : Nat → Int32) : Nat → Int32 × (Nat → Int32)
  | 0 => (i0_, i1_)
  | k_ + 1 => L3_X0_growTrees lc L j1 x3_1 fyh_1 fyo_1 k_ ((L3_X0_growTree lc L j1 x3_1 fyh_1 fyo_1 i0_ i1_ k_).1) ((L3_X0_growTree lc L j1 x3_1 fyh_1 fyo_1 i0_ i1_ k_).2)
def L1_X0_growTree (pe : Nat) (lc : Nat) (L : Nat → Int32) (tm : Nat → Int32) : Nat → Nat → Int32 → Int32 → (Nat → Int32) → (Nat → Int32) → Int32 × (Nat → Int32) × (Nat → Int32) × (Nat → Int32)
  | 0, _, _, _, _, _ => (0, fun _ => 0, fun _ => 0, fun _ => 0)
  | m_ + 1, j1, x4_1, x3_1, fyh_1, fyo_1 => if nI (tN x4_1) ≤ nI j1 then (((1 : Int32), (L2_X0_growTree x4_1 fyh_1 fyo_1 tm (tN x4_1)), fyh_1, fyo_1)) else (L1_X0_growTree pe lc L tm m_ (j1 + 1) ((L3_X0_growTree lc L j1 x3_1 fyh_1 fyo_1 x4_1 fyo_1 pe).1) (x3_1 ||| ((upd fyh_1 (tN (fyo_1 j1)) ((nbs L (nI (tN (fyo_1 j1))) lc) &&& (x3_1 ^^^ (-1 : Int32)))) (tN (fyo_1 j1)))) (upd fyh_1 (tN (fyo_1 j1)) ((nbs L (nI (tN (fyo_1 j1))) lc) &&& (x3_1 ^^^ (-1 : Int32)))) ((L3_X0_growTree lc L j1 x3_1 fyh_1 fyo_1 x4_1 fyo_1 pe).2))
def F_X0_growTree (pe : Nat) (lc : Nat) (L : Nat → Int32) (tm : Nat → Int32) (ch : Nat → Int32) (od : Nat → Int32) (fo : Nat) : Int32 × (Nat → Int32) × (Nat → Int32) × (Nat → Int32) := if F_X10_twoWayLines lc L = nI (pe - 1) then (if holds L lc pe = 0 then (((0 : Int32), tm, ch, od)) else (L1_X0_growTree pe lc L tm (7 + 1) 0 (1 : Int32) ((1 : Int32) <<< ((nI fo) &&& 31)) ch (upd od 0 (nI fo)))) else (((0 : Int32), tm, ch, od))
set_option maxHeartbeats 4000000 in
set_option maxRecDepth 100000 in
theorem K_X0_growTree (l : Launch) (g : GG) (gv : Value) (y0 : Nat) (yc : Nat) (yt : Nat) (yh : Nat) (yo : Nat) (kn : Int32) (on : Int32) (v : Nat) (v3 : Nat) (v4 : Nat) (v5 : Nat) (v6 : Nat) (v7 : Nat) (v8 : Nat) (v9 : Nat) (v10 : Nat) (v11 : Nat) (v12 : Nat) (v13 : Nat) (v15 : Nat) (pe : Nat) (lc : Nat) (de : Int32) (gl : Int32) (L : Nat → Int32) (tm : Nat → Int32) (ch : Nat → Int32) (od : Nat → Int32) (fo : Nat) (hpe : pe ≤ 7) (hpe1 : 1 ≤ pe) (hlc : lc ≤ 12) (hfo : fo < 7) : MetI l g yX0_growTree cX0_growTree 8 (some .boolean) 4 0 0 [.ref y0, .ref v, .int (nI fo)] [(y0, .inr (0, [gv, .int kn, .int on, .ref yc, .ref yt, .ref yh, .ref yo])), (yt, .inl (g.2.1 1, 7, .inl tm)), (yh, .inl (g.2.1 1, 7, .inl ch)), (yo, .inl (g.2.1 1, 7, .inl od)), (v, .inr (10, [.int (nI pe), .int (nI lc), .int de, .ref v3, .ref v4, .ref v5, .ref v6, .ref v7, .ref v8, .ref v9, .ref v10, .ref v11, .ref v12, .ref v13, .int gl, .ref v15])), (v9, .inl (g.2.1 1, 72, .inl L))] (fun r u => r = (F_X0_growTree pe lc L tm ch od fo).1 ∧ u = [(y0, .inr (0, [gv, .int kn, .int on, .ref yc, .ref yt, .ref yh, .ref yo])), (yt, .inl (g.2.1 1, 7, .inl ((F_X0_growTree pe lc L tm ch od fo).2.1))), (yh, .inl (g.2.1 1, 7, .inl ((F_X0_growTree pe lc L tm ch od fo).2.2.1))), (yo, .inl (g.2.1 1, 7, .inl ((F_X0_growTree pe lc L tm ch od fo).2.2.2))), (v, .inr (10, [.int (nI pe), .int (nI lc), .int de, .ref v3, .ref v4, .ref v5, .ref v6, .ref v7, .ref v8, .ref v9, .ref v10, .ref v11, .ref v12, .ref v13, .int gl, .ref v15])), (v9, .inl (g.2.1 1, 72, .inl L))]) := by
  refine MetI.of (own := RX0) rfl (by decide) (Nat.le_of_ble_eq_true rfl) ?_
  intro p e s m below meth c A ls args Q hQ X hr hin hW hl
  have hx := X.1
  have hb := X.2.1
  have hl : lv_has ls 8 [(0, .ref y0), (1, .ref v), (2, .int (nI fo))] := hl
  refine lv_aload_n (pc := 0) hx hb dX0_growTree_0 rfl (lv_at hl 1 rfl) ?_
  refine c_Vi (pc := 1) (As := []) (rest := []) (wr := [(y0, .inr (0, [gv, .int kn, .int on, .ref yc, .ref yt, .ref yh, .ref yo])), (yt, .inl (g.2.1 1, 7, .inl tm)), (yh, .inl (g.2.1 1, 7, .inl ch)), (yo, .inl (g.2.1 1, 7, .inl od))]) X hW 4 ciX10 rfl (K_X10_twoWayLines l g v v3 v4 v5 v6 v7 v8 v9 v10 v11 v12 v13 v15 (nI pe) lc de gl L hlc) vX0_68 [4, 5] [0, 1, 2, 3] rfl rfl rfl rfl rfl rfl hl.1 rfl (Nat.le_of_ble_eq_true rfl) ⟨Nat.le_of_ble_eq_true rfl, Nat.le_of_ble_eq_true rfl⟩ ⟨Nat.le_of_ble_eq_true rfl, Nat.le_of_ble_eq_true rfl⟩ dX0_growTree_1 (fun r1 u9 H locs hq hW => ?_)
  obtain ⟨rfl, rfl⟩ := hq
  have hW : WD g A s _ _ [(y0, .inr (0, [gv, .int kn, .int on, .ref yc, .ref yt, .ref yh, .ref yo])), (yt, .inl (g.2.1 1, 7, .inl tm)), (yh, .inl (g.2.1 1, 7, .inl ch)), (yo, .inl (g.2.1 1, 7, .inl od)), (v, .inr (10, [.int (nI pe), .int (nI lc), .int de, .ref v3, .ref v4, .ref v5, .ref v6, .ref v7, .ref v8, .ref v9, .ref v10, .ref v11, .ref v12, .ref v13, .int gl, .ref v15])), (v9, .inl (g.2.1 1, 72, .inl L))] := hW
  refine lv_aload_n (pc := 4) hx hb dX0_growTree_4 rfl (lv_at hl 1 rfl) ?_
  refine r_getN X hW 4 ciX10 0 rfl (by decide) m_273 rfl rfl dX0_growTree_5 ?_
  refine lv_iconst (v := 1) (pc := 8) hx hb dX0_growTree_8 (by decide) ?_
  refine lv_isub (pc := 9) hx hb dX0_growTree_9 ?_
  refine lv_topi (fun v2 ev2 => ?_)
  obtain rfl : v2 = nI (pe - 1) := ev2.trans (pk_sub (a := pe) (b := 1) (by omega))
  refine lv_icmp_ne (tgt := 20) (pc := 10) hx hb dX0_growTree_10 rfl (fun c3 => ?_) (fun c3 => ?_)
  · refine lv_iconst (v := 0) (pc := 20) hx hb dX0_growTree_20 (by decide) ?_
    have hF : F_X0_growTree pe lc L tm ch od fo = ((0 : Int32), tm, ch, od) := show F_X0_growTree pe lc L tm ch od fo = ((0 : Int32), tm, ch, od) from by rw [F_X0_growTree, if_neg c3]
    exact e_z (u := [(y0, .inr (0, [gv, .int kn, .int on, .ref yc, .ref yt, .ref yh, .ref yo])), (yt, .inl (g.2.1 1, 7, .inl tm)), (yh, .inl (g.2.1 1, 7, .inl ch)), (yo, .inl (g.2.1 1, 7, .inl od)), (v, .inr (10, [.int (nI pe), .int (nI lc), .int de, .ref v3, .ref v4, .ref v5, .ref v6, .ref v7, .ref v8, .ref v9, .ref v10, .ref v11, .ref v12, .ref v13, .int gl, .ref v15])), (v9, .inl (g.2.1 1, 72, .inl L))]) X hQ hr (hW) rfl [0, 1, 2, 3, 4, 5] rfl rfl (⟨(congrArg Prod.fst hF).symm, by rw [hF]⟩) ⟨Nat.le_of_ble_eq_true rfl, Nat.le_of_ble_eq_true rfl⟩ dX0_growTree_21
  · refine lv_aload_n (pc := 13) hx hb dX0_growTree_13 rfl (lv_at hl 1 rfl) ?_
    refine c_Vi (pc := 14) (As := []) (rest := []) (wr := [(y0, .inr (0, [gv, .int kn, .int on, .ref yc, .ref yt, .ref yh, .ref yo])), (yt, .inl (g.2.1 1, 7, .inl tm)), (yh, .inl (g.2.1 1, 7, .inl ch)), (yo, .inl (g.2.1 1, 7, .inl od))]) X hW 4 ciX10 rfl (C_X10_holdsG l g v v3 v4 v5 v6 v7 v8 v9 v10 v11 v12 v13 v15 de gl L lc pe (by omega) (by omega)) vX0_71 [4, 5] [0, 1, 2, 3] rfl rfl rfl rfl rfl rfl hl.1 rfl (Nat.le_of_ble_eq_true rfl) ⟨Nat.le_of_ble_eq_true rfl, Nat.le_of_ble_eq_true rfl⟩ ⟨Nat.le_of_ble_eq_true rfl, Nat.le_of_ble_eq_true rfl⟩ dX0_growTree_14 (fun r6 u9 H locs hq hW => ?_)
    obtain ⟨rfl, rfl⟩ := hq
    have hW : WD g A s _ _ [(y0, .inr (0, [gv, .int kn, .int on, .ref yc, .ref yt, .ref yh, .ref yo])), (yt, .inl (g.2.1 1, 7, .inl tm)), (yh, .inl (g.2.1 1, 7, .inl ch)), (yo, .inl (g.2.1 1, 7, .inl od)), (v, .inr (10, [.int (nI pe), .int (nI lc), .int de, .ref v3, .ref v4, .ref v5, .ref v6, .ref v7, .ref v8, .ref v9, .ref v10, .ref v11, .ref v12, .ref v13, .int gl, .ref v15])), (v9, .inl (g.2.1 1, 72, .inl L))] := hW
    refine lv_if_ne (tgt := 22) (pc := 17) hx hb dX0_growTree_17 rfl (fun c7 => ?_) (fun c7 => ?_)
    · refine lv_iconst (v := 1) (pc := 22) hx hb dX0_growTree_22 (by decide) ?_
      refine lv_iload_n (pc := 23) hx hb dX0_growTree_23 rfl (lv_at hl 2 rfl) ?_
      refine lv_ishl (pc := 24) hx hb dX0_growTree_24 ?_
      refine lv_istore_n (lv' := [(3, .int ((1 : Int32) <<< ((nI fo) &&& 31))), (0, .ref y0), (1, .ref v), (2, .int (nI fo))]) (pc := 25) hx hb dX0_growTree_25 rfl hl (by decide) rfl (fun ls hl => ?_)
      refine lv_iconst (v := 1) (pc := 26) hx hb dX0_growTree_26 (by decide) ?_
      refine lv_istore (lv' := [(4, .int 1), (3, .int ((1 : Int32) <<< ((nI fo) &&& 31))), (0, .ref y0), (1, .ref v), (2, .int (nI fo))]) (pc := 27) hx hb dX0_growTree_27 hl (by decide) rfl (fun ls hl => ?_)
      refine lv_aload_n (pc := 29) hx hb dX0_growTree_29 rfl (lv_at hl 2 rfl) ?_
      refine r_get X hW 0 ciX0 6 rfl (by decide) m_237 rfl rfl dX0_growTree_30 ?_
      refine lv_iconst (v := 0) (pc := 33) hx hb dX0_growTree_33 (by decide) ?_
      refine lv_iload_n (pc := 34) hx hb dX0_growTree_34 rfl (lv_at hl 4 rfl) ?_
      refine r_iast (ws' := [(y0, .inr (0, [gv, .int kn, .int on, .ref yc, .ref yt, .ref yh, .ref yo])), (yt, .inl (g.2.1 1, 7, .inl tm)), (yh, .inl (g.2.1 1, 7, .inl ch)), (yo, .inl (g.2.1 1, 7, .inl (upd od 0 (nI fo)))), (v, .inr (10, [.int (nI pe), .int (nI lc), .int de, .ref v3, .ref v4, .ref v5, .ref v6, .ref v7, .ref v8, .ref v9, .ref v10, .ref v11, .ref v12, .ref v13, .int gl, .ref v15])), (v9, .inl (g.2.1 1, 72, .inl L))]) X hW 3 rfl (by unfold vp_in; decide) (f' := (upd od 0 (nI fo))) (rfl) rfl dX0_growTree_35 (fun H locs hW => ?_)
      refine lv_iconst (v := 0) (pc := 36) hx hb dX0_growTree_36 (by decide) ?_
      refine lv_istore (lv' := [(5, .int 0), (4, .int 1), (3, .int ((1 : Int32) <<< ((nI fo) &&& 31))), (0, .ref y0), (1, .ref v), (2, .int (nI fo))]) (pc := 37) hx hb dX0_growTree_37 hl (by decide) rfl (fun ls hl => ?_)
      have loop1 : ∀ (fu1 : Nat) (j1 : Nat) (x4_1 : Int32) (x3_1 : Int32) (fyh_1 : Nat → Int32) (fyo_1 : Nat → Int32), (7 < fu1 + j1) → (j1 ≤ 7) → (x4_1 = nI (tN x4_1) ∧ tN x4_1 ≤ 7 ∧ 1 ≤ tN x4_1) → (OK7 (tN x4_1) fyo_1) → (L1_X0_growTree pe lc L tm fu1 j1 x4_1 x3_1 fyh_1 fyo_1 = F_X0_growTree pe lc L tm ch od fo) → ∀ (H : Heap) (locs : List Loc) (ls : Array Slot), WD g A s H locs [(y0, .inr (0, [gv, .int kn, .int on, .ref yc, .ref yt, .ref yh, .ref yo])), (yt, .inl (g.2.1 1, 7, .inl tm)), (yh, .inl (g.2.1 1, 7, .inl fyh_1)), (yo, .inl (g.2.1 1, 7, .inl fyo_1)), (v, .inr (10, [.int (nI pe), .int (nI lc), .int de, .ref v3, .ref v4, .ref v5, .ref v6, .ref v7, .ref v8, .ref v9, .ref v10, .ref v11, .ref v12, .ref v13, .int gl, .ref v15])), (v9, .inl (g.2.1 1, 72, .inl L))] → lv_has ls 8 [(5, .int (nI j1)), (4, .int x4_1), (3, .int x3_1), (0, .ref y0), (1, .ref v), (2, .int (nI fo))] → W p l e (RM 4 0 0) s m args below meth c H locs 0 0 Q (F0 m 39 ls []) := by
        intro fu1
        induction fu1 with
        | zero =>
          intro j1 x4_1 x3_1 fyh_1 fyo_1 hm1 hj1 hct1 hok1 hst1
          exact absurd hm1 (by omega)
        | succ fu1 ih1 =>
          intro j1 x4_1 x3_1 fyh_1 fyo_1 hm1 hj1 hct1 hok1 hst1 H locs ls hW hl
          refine lv_iload (pc := 39) hx hb dX0_growTree_39 (lv_at hl 0 rfl) ?_
          have hct1b := hct1.2
          refine lv_iload (pc := 41) hx hb dX0_growTree_41 (lv_at hl 1 rfl) ?_
          rw [hct1.1]
          refine lv_icmp_ge (tgt := 147) (pc := 43) hx hb dX0_growTree_43 rfl (fun c9 => ?_) (fun c9 => ?_)
          · have h10 : (tN x4_1) ≤ j1 := (nI_leI (a := (tN x4_1)) (b := j1) (by omega) (by omega)).mp c9
            refine lv_iload (pc := 147) hx hb dX0_growTree_147 (lv_at hl 1 rfl) ?_
            rw [hct1.1]
            refine lv_iconst (v := 1) (pc := 149) hx hb dX0_growTree_149 (by decide) ?_
            refine lv_isub (pc := 150) hx hb dX0_growTree_150 ?_
            refine lv_topi (fun v11 ev11 => ?_)
            obtain rfl : v11 = nI (tN x4_1 - 0) - 1 := ev11.trans (rfl)
            refine lv_istore (lv' := [(5, .int (nI (tN x4_1 - 0) - 1)), (4, .int x4_1), (3, .int x3_1), (0, .ref y0), (1, .ref v), (2, .int (nI fo))]) (pc := 151) hx hb dX0_growTree_151 hl (by decide) rfl (fun ls hl => ?_)
            have loop2 : ∀ (fu2 : Nat) (j2 : Nat) (fyt_2 : Nat → Int32), ((tN x4_1) < fu2 + j2) → (j2 ≤ (tN x4_1)) → (fyt_2 = L2_X0_growTree x4_1 fyh_1 fyo_1 tm j2) → ∀ (H : Heap) (locs : List Loc) (ls : Array Slot), WD g A s H locs [(y0, .inr (0, [gv, .int kn, .int on, .ref yc, .ref yt, .ref yh, .ref yo])), (yt, .inl (g.2.1 1, 7, .inl fyt_2)), (yh, .inl (g.2.1 1, 7, .inl fyh_1)), (yo, .inl (g.2.1 1, 7, .inl fyo_1)), (v, .inr (10, [.int (nI pe), .int (nI lc), .int de, .ref v3, .ref v4, .ref v5, .ref v6, .ref v7, .ref v8, .ref v9, .ref v10, .ref v11, .ref v12, .ref v13, .int gl, .ref v15])), (v9, .inl (g.2.1 1, 72, .inl L))] → lv_has ls 8 [(5, .int (nI (tN x4_1 - j2) - 1)), (4, .int x4_1), (3, .int x3_1), (0, .ref y0), (1, .ref v), (2, .int (nI fo))] → W p l e (RM 4 0 0) s m args below meth c H locs 0 0 Q (F0 m 153 ls []) := by
              intro fu2
              induction fu2 with
              | zero =>
                intro j2 fyt_2 hm2 hj2 hst2
                exact absurd hm2 (by omega)
              | succ fu2 ih2 =>
                intro j2 fyt_2 hm2 hj2 hst2 H locs ls hW hl
                refine lv_iload (pc := 153) hx hb dX0_growTree_153 (lv_at hl 0 rfl) ?_
                refine lv_if_lt (tgt := 187) (pc := 155) hx hb dX0_growTree_155 rfl (fun c12 => ?_) (fun c12 => ?_)
                · have hz := dn_t (by omega) c12
                  have hN2 : j2 = (tN x4_1) := by omega
                  rw [hN2] at hst2
                  subst hst2
                  have hW : WD g A s _ _ [(y0, .inr (0, [gv, .int kn, .int on, .ref yc, .ref yt, .ref yh, .ref yo])), (yt, .inl (g.2.1 1, 7, .inl (L2_X0_growTree x4_1 fyh_1 fyo_1 tm (tN x4_1)))), (yh, .inl (g.2.1 1, 7, .inl fyh_1)), (yo, .inl (g.2.1 1, 7, .inl fyo_1)), (v, .inr (10, [.int (nI pe), .int (nI lc), .int de, .ref v3, .ref v4, .ref v5, .ref v6, .ref v7, .ref v8, .ref v9, .ref v10, .ref v11, .ref v12, .ref v13, .int gl, .ref v15])), (v9, .inl (g.2.1 1, 72, .inl L))] := hW
                  refine lv_iconst (v := 1) (pc := 187) hx hb dX0_growTree_187 (by decide) ?_
                  have hF : F_X0_growTree pe lc L tm ch od fo = ((1 : Int32), (L2_X0_growTree x4_1 fyh_1 fyo_1 tm (tN x4_1)), fyh_1, fyo_1) := hst1.symm.trans (show L1_X0_growTree pe lc L tm (fu1 + 1) j1 x4_1 x3_1 fyh_1 fyo_1 = ((1 : Int32), (L2_X0_growTree x4_1 fyh_1 fyo_1 tm (tN x4_1)), fyh_1, fyo_1) from by rw [L1_X0_growTree, if_pos c9])
                  exact e_z (u := [(y0, .inr (0, [gv, .int kn, .int on, .ref yc, .ref yt, .ref yh, .ref yo])), (yt, .inl (g.2.1 1, 7, .inl (L2_X0_growTree x4_1 fyh_1 fyo_1 tm (tN x4_1)))), (yh, .inl (g.2.1 1, 7, .inl fyh_1)), (yo, .inl (g.2.1 1, 7, .inl fyo_1)), (v, .inr (10, [.int (nI pe), .int (nI lc), .int de, .ref v3, .ref v4, .ref v5, .ref v6, .ref v7, .ref v8, .ref v9, .ref v10, .ref v11, .ref v12, .ref v13, .int gl, .ref v15])), (v9, .inl (g.2.1 1, 72, .inl L))]) X hQ hr (hW) rfl [0, 1, 2, 3, 4, 5] rfl rfl (⟨(congrArg Prod.fst hF).symm, by rw [hF]⟩) ⟨Nat.le_of_ble_eq_true rfl, Nat.le_of_ble_eq_true rfl⟩ dX0_growTree_188
                · have hz := dn_f c12
                  rw [nI_s1 hz] at hl
                  refine lv_aload_n (pc := 158) hx hb dX0_growTree_158 rfl (lv_at hl 3 rfl) ?_
                  refine r_get X hW 0 ciX0 4 rfl (by decide) m_234 rfl rfl dX0_growTree_159 ?_
                  refine lv_aload_n (pc := 162) hx hb dX0_growTree_162 rfl (lv_at hl 3 rfl) ?_
                  refine r_get X hW 0 ciX0 6 rfl (by decide) m_237 rfl rfl dX0_growTree_163 ?_
                  refine lv_iload (pc := 166) hx hb dX0_growTree_166 (lv_at hl 0 rfl) ?_
                  refine r_iald X hW 3 rfl (vp_in_nI (by omega) (by decide)) dX0_growTree_168 ?_
                  refine lv_topi (fun v15 ev15 => ?_)
                  obtain rfl : v15 = fyo_1 (tN x4_1 - j2 - 1) := ev15.trans (by rw [nI_clamp (by omega)])
                  have hom := hok1 (tN x4_1 - j2 - 1) (by omega)
                  have hom2 := hom.2
                  rw [hom.1]
                  refine lv_aload_n (pc := 169) hx hb dX0_growTree_169 rfl (lv_at hl 3 rfl) ?_
                  refine lv_aload_n (pc := 170) hx hb dX0_growTree_170 rfl (lv_at hl 3 rfl) ?_
                  refine r_get X hW 0 ciX0 6 rfl (by decide) m_237 rfl rfl dX0_growTree_171 ?_
                  refine lv_iload (pc := 174) hx hb dX0_growTree_174 (lv_at hl 0 rfl) ?_
                  refine r_iald X hW 3 rfl (vp_in_nI (by omega) (by decide)) dX0_growTree_176 ?_
                  refine lv_topi (fun v16 ev16 => ?_)
                  obtain rfl : v16 = fyo_1 (tN x4_1 - j2 - 1) := ev16.trans (by rw [nI_clamp (by omega)])
                  have hop := hok1 (tN x4_1 - j2 - 1) (by omega)
                  have hop2 := hop.2
                  rw [hop.1, tN_nI (by omega)]
                  refine c_Vi (pc := 177) (As := [.int (nI (tN (fyo_1 (tN x4_1 - j2 - 1))))]) (rest := [.int (nI (tN (fyo_1 (tN x4_1 - j2 - 1)))), .ref yt]) (wr := [(yo, .inl (g.2.1 1, 7, .inl fyo_1)), (v, .inr (10, [.int (nI pe), .int (nI lc), .int de, .ref v3, .ref v4, .ref v5, .ref v6, .ref v7, .ref v8, .ref v9, .ref v10, .ref v11, .ref v12, .ref v13, .int gl, .ref v15])), (v9, .inl (g.2.1 1, 72, .inl L))]) X hW 0 ciX0 rfl (K_X0_timeOf l g gv y0 yc yt yh yo kn on fyt_2 fyh_1 (tN (fyo_1 (tN x4_1 - j2 - 1))) (by omega)) vX0_79 [0, 1, 2] [3, 4, 5] rfl rfl rfl rfl rfl rfl hl.1 rfl (Nat.le_of_ble_eq_true rfl) ⟨Nat.le_of_ble_eq_true rfl, Nat.le_of_ble_eq_true rfl⟩ ⟨Nat.le_of_ble_eq_true rfl, Nat.le_of_ble_eq_true rfl⟩ dX0_growTree_177 (fun r17 u9 H locs hq hW => ?_)
                  obtain ⟨rfl, rfl⟩ := hq
                  have hW : WD g A s _ _ [(yo, .inl (g.2.1 1, 7, .inl fyo_1)), (v, .inr (10, [.int (nI pe), .int (nI lc), .int de, .ref v3, .ref v4, .ref v5, .ref v6, .ref v7, .ref v8, .ref v9, .ref v10, .ref v11, .ref v12, .ref v13, .int gl, .ref v15])), (v9, .inl (g.2.1 1, 72, .inl L)), (y0, .inr (0, [gv, .int kn, .int on, .ref yc, .ref yt, .ref yh, .ref yo])), (yt, .inl (g.2.1 1, 7, .inl fyt_2)), (yh, .inl (g.2.1 1, 7, .inl fyh_1))] := hW
                  refine r_iast (ws' := [(yo, .inl (g.2.1 1, 7, .inl fyo_1)), (v, .inr (10, [.int (nI pe), .int (nI lc), .int de, .ref v3, .ref v4, .ref v5, .ref v6, .ref v7, .ref v8, .ref v9, .ref v10, .ref v11, .ref v12, .ref v13, .int gl, .ref v15])), (v9, .inl (g.2.1 1, 72, .inl L)), (y0, .inr (0, [gv, .int kn, .int on, .ref yc, .ref yt, .ref yh, .ref yo])), (yt, .inl (g.2.1 1, 7, .inl (upd fyt_2 (tN (fyo_1 (tN x4_1 - j2 - 1))) (F_X0_timeOf fyt_2 fyh_1 (tN (fyo_1 (tN x4_1 - j2 - 1))))))), (yh, .inl (g.2.1 1, 7, .inl fyh_1))]) X hW 4 rfl (vp_in_nI (by omega) (by decide)) (f' := (upd fyt_2 (tN (fyo_1 (tN x4_1 - j2 - 1))) (F_X0_timeOf fyt_2 fyh_1 (tN (fyo_1 (tN x4_1 - j2 - 1)))))) (by rw [nI_clamp (by omega)]) rfl dX0_growTree_180 (fun H locs hW => ?_)
                  refine lv_iinc (v := nI (tN x4_1 - (j2 + 1)) - 1) (lv' := [(5, .int (nI (tN x4_1 - (j2 + 1)) - 1)), (4, .int x4_1), (3, .int x3_1), (0, .ref y0), (1, .ref v), (2, .int (nI fo))]) (pc := 181) hx hb dX0_growTree_181 hl (k := 0) rfl (dn_s) (by decide) rfl (fun ls hl => ?_)
                  refine lv_goto (tgt := 153) (pc := 184) hx hb dX0_growTree_184 rfl ?_
                  have hW : WD g A s _ _ [(y0, .inr (0, [gv, .int kn, .int on, .ref yc, .ref yt, .ref yh, .ref yo])), (yt, .inl (g.2.1 1, 7, .inl (upd fyt_2 (tN (fyo_1 (tN x4_1 - j2 - 1))) (F_X0_timeOf fyt_2 fyh_1 (tN (fyo_1 (tN x4_1 - j2 - 1))))))), (yh, .inl (g.2.1 1, 7, .inl fyh_1)), (yo, .inl (g.2.1 1, 7, .inl fyo_1)), (v, .inr (10, [.int (nI pe), .int (nI lc), .int de, .ref v3, .ref v4, .ref v5, .ref v6, .ref v7, .ref v8, .ref v9, .ref v10, .ref v11, .ref v12, .ref v13, .int gl, .ref v15])), (v9, .inl (g.2.1 1, 72, .inl L))] := hW.pick [3, 4, 5, 0, 1, 2] rfl rfl
                  exact ih2 (j2 + 1) (upd fyt_2 (tN (fyo_1 (tN x4_1 - j2 - 1))) (F_X0_timeOf fyt_2 fyh_1 (tN (fyo_1 (tN x4_1 - j2 - 1))))) (by omega) (by omega) (by rw [L2_X0_growTree, ← hst2]; exact (show L2_X0_growTrees x4_1 fyh_1 fyo_1 j2 fyt_2 = (upd fyt_2 (tN (fyo_1 (tN x4_1 - j2 - 1))) (F_X0_timeOf fyt_2 fyh_1 (tN (fyo_1 (tN x4_1 - j2 - 1))))) from rfl).symm) _ _ _ hW (lv_sub hl [0, 1, 2, 3, 4, 5] rfl)
            exact loop2 ((tN x4_1) + 1) 0 tm (by omega) (by omega) rfl _ _ _ hW (lv_sub hl [0, 1, 2, 3, 4, 5] rfl)
          · have h18 : ¬ ((tN x4_1) ≤ j1) := fun q => c9 ((nI_leI (a := (tN x4_1)) (b := j1) (by omega) (by omega)).mpr q)
            refine lv_iload (pc := 46) hx hb dX0_growTree_46 (lv_at hl 0 rfl) ?_
            refine lv_bipush (v := 7) (pc := 48) hx hb dX0_growTree_48 (by decide) ?_
            refine lv_icmp_ge (tgt := 147) (pc := 50) hx hb dX0_growTree_50 rfl (fun c19 => absurd c19 (fun q => absurd ((nI_leI (a := 7) (b := j1) (by omega) (by omega)).mp q) (by omega))) (fun c19 => ?_)
            refine lv_aload_n (pc := 53) hx hb dX0_growTree_53 rfl (lv_at hl 3 rfl) ?_
            refine r_get X hW 0 ciX0 6 rfl (by decide) m_237 rfl rfl dX0_growTree_54 ?_
            refine lv_iload (pc := 57) hx hb dX0_growTree_57 (lv_at hl 0 rfl) ?_
            refine r_iald X hW 3 rfl (vp_in_nI (by omega) (by decide)) dX0_growTree_59 ?_
            refine lv_topi (fun v20 ev20 => ?_)
            obtain rfl : v20 = fyo_1 j1 := ev20.trans (by rw [nI_clamp (by omega)])
            have hon := hok1 j1 (by omega)
            have hon2 := hon.2
            rw [hon.1]
            refine lv_istore (lv' := [(6, .int (nI (tN (fyo_1 j1)))), (5, .int (nI j1)), (4, .int x4_1), (3, .int x3_1), (0, .ref y0), (1, .ref v), (2, .int (nI fo))]) (pc := 60) hx hb dX0_growTree_60 hl (by decide) rfl (fun ls hl => ?_)
            refine lv_aload_n (pc := 62) hx hb dX0_growTree_62 rfl (lv_at hl 4 rfl) ?_
            refine r_get X hW 0 ciX0 5 rfl (by decide) m_236 rfl rfl dX0_growTree_63 ?_
            refine lv_iload (pc := 66) hx hb dX0_growTree_66 (lv_at hl 0 rfl) ?_
            refine lv_aload_n (pc := 68) hx hb dX0_growTree_68 rfl (lv_at hl 5 rfl) ?_
            refine lv_iload (pc := 69) hx hb dX0_growTree_69 (lv_at hl 0 rfl) ?_
            refine c_Vi (pc := 71) (As := [.int (nI (tN (fyo_1 j1)))]) (rest := [.int (nI (tN (fyo_1 j1))), .ref yh]) (wr := [(y0, .inr (0, [gv, .int kn, .int on, .ref yc, .ref yt, .ref yh, .ref yo])), (yt, .inl (g.2.1 1, 7, .inl tm)), (yh, .inl (g.2.1 1, 7, .inl fyh_1)), (yo, .inl (g.2.1 1, 7, .inl fyo_1))]) X hW 4 ciX10 rfl (C_X10_neighboursG l g v v3 v4 v5 v6 v7 v8 v9 v10 v11 v12 v13 v15 (nI pe) de gl L lc (nI (tN (fyo_1 j1))) (by omega)) vX0_75 [4, 5] [0, 1, 2, 3] rfl rfl rfl rfl rfl rfl hl.1 rfl (Nat.le_of_ble_eq_true rfl) ⟨Nat.le_of_ble_eq_true rfl, Nat.le_of_ble_eq_true rfl⟩ ⟨Nat.le_of_ble_eq_true rfl, Nat.le_of_ble_eq_true rfl⟩ dX0_growTree_71 (fun r21 u9 H locs hq hW => ?_)
            obtain ⟨rfl, rfl⟩ := hq
            have hW : WD g A s _ _ [(y0, .inr (0, [gv, .int kn, .int on, .ref yc, .ref yt, .ref yh, .ref yo])), (yt, .inl (g.2.1 1, 7, .inl tm)), (yh, .inl (g.2.1 1, 7, .inl fyh_1)), (yo, .inl (g.2.1 1, 7, .inl fyo_1)), (v, .inr (10, [.int (nI pe), .int (nI lc), .int de, .ref v3, .ref v4, .ref v5, .ref v6, .ref v7, .ref v8, .ref v9, .ref v10, .ref v11, .ref v12, .ref v13, .int gl, .ref v15])), (v9, .inl (g.2.1 1, 72, .inl L))] := hW
            refine lv_iload_n (pc := 74) hx hb dX0_growTree_74 rfl (lv_at hl 3 rfl) ?_
            refine lv_iconst (v := (-1)) (pc := 75) hx hb dX0_growTree_75 (by decide) ?_
            refine lv_ixor (pc := 76) hx hb dX0_growTree_76 ?_
            refine lv_iand (pc := 77) hx hb dX0_growTree_77 ?_
            refine r_iast (ws' := [(y0, .inr (0, [gv, .int kn, .int on, .ref yc, .ref yt, .ref yh, .ref yo])), (yt, .inl (g.2.1 1, 7, .inl tm)), (yh, .inl (g.2.1 1, 7, .inl (upd fyh_1 (tN (fyo_1 j1)) ((nbs L (nI (tN (fyo_1 j1))) lc) &&& (x3_1 ^^^ (-1 : Int32)))))), (yo, .inl (g.2.1 1, 7, .inl fyo_1)), (v, .inr (10, [.int (nI pe), .int (nI lc), .int de, .ref v3, .ref v4, .ref v5, .ref v6, .ref v7, .ref v8, .ref v9, .ref v10, .ref v11, .ref v12, .ref v13, .int gl, .ref v15])), (v9, .inl (g.2.1 1, 72, .inl L))]) X hW 2 rfl (vp_in_nI (by omega) (by decide)) (f' := (upd fyh_1 (tN (fyo_1 j1)) ((nbs L (nI (tN (fyo_1 j1))) lc) &&& (x3_1 ^^^ (-1 : Int32))))) (by rw [nI_clamp (by omega)]) rfl dX0_growTree_78 (fun H locs hW => ?_)
            refine lv_iload_n (pc := 79) hx hb dX0_growTree_79 rfl (lv_at hl 3 rfl) ?_
            refine lv_aload_n (pc := 80) hx hb dX0_growTree_80 rfl (lv_at hl 4 rfl) ?_
            refine r_get X hW 0 ciX0 5 rfl (by decide) m_236 rfl rfl dX0_growTree_81 ?_
            refine lv_iload (pc := 84) hx hb dX0_growTree_84 (lv_at hl 0 rfl) ?_
            refine r_iald X hW 2 rfl (vp_in_nI (by omega) (by decide)) dX0_growTree_86 ?_
            refine lv_topi (fun v22 ev22 => ?_)
            obtain rfl : v22 = (upd fyh_1 (tN (fyo_1 j1)) ((nbs L (nI (tN (fyo_1 j1))) lc) &&& (x3_1 ^^^ (-1 : Int32)))) (tN (fyo_1 j1)) := ev22.trans (by rw [nI_clamp (by omega)])
            refine lv_ior (pc := 87) hx hb dX0_growTree_87 ?_
            refine lv_istore_n (lv' := [(3, .int (x3_1 ||| ((upd fyh_1 (tN (fyo_1 j1)) ((nbs L (nI (tN (fyo_1 j1))) lc) &&& (x3_1 ^^^ (-1 : Int32)))) (tN (fyo_1 j1))))), (6, .int (nI (tN (fyo_1 j1)))), (5, .int (nI j1)), (4, .int x4_1), (0, .ref y0), (1, .ref v), (2, .int (nI fo))]) (pc := 88) hx hb dX0_growTree_88 rfl hl (by decide) rfl (fun ls hl => ?_)
            refine lv_iconst (v := 0) (pc := 89) hx hb dX0_growTree_89 (by decide) ?_
            refine lv_istore (lv' := [(7, .int 0), (3, .int (x3_1 ||| ((upd fyh_1 (tN (fyo_1 j1)) ((nbs L (nI (tN (fyo_1 j1))) lc) &&& (x3_1 ^^^ (-1 : Int32)))) (tN (fyo_1 j1))))), (6, .int (nI (tN (fyo_1 j1)))), (5, .int (nI j1)), (4, .int x4_1), (0, .ref y0), (1, .ref v), (2, .int (nI fo))]) (pc := 90) hx hb dX0_growTree_90 hl (by decide) rfl (fun ls hl => ?_)
            have loop3 : ∀ (fu3 : Nat) (j3 : Nat) (x4_3 : Int32) (fyo_3 : Nat → Int32), (pe < fu3 + j3) → (j3 ≤ pe) → (x4_3 = nI (tN x4_3) ∧ tN x4_3 ≤ 7 ∧ 1 ≤ tN x4_3) → (OK7 (tN x4_3) fyo_3) → ((x4_3, fyo_3) = L3_X0_growTree lc L j1 x3_1 fyh_1 fyo_1 x4_1 fyo_1 j3) → ∀ (H : Heap) (locs : List Loc) (ls : Array Slot), WD g A s H locs [(y0, .inr (0, [gv, .int kn, .int on, .ref yc, .ref yt, .ref yh, .ref yo])), (yt, .inl (g.2.1 1, 7, .inl tm)), (yh, .inl (g.2.1 1, 7, .inl (upd fyh_1 (tN (fyo_1 j1)) ((nbs L (nI (tN (fyo_1 j1))) lc) &&& (x3_1 ^^^ (-1 : Int32)))))), (yo, .inl (g.2.1 1, 7, .inl fyo_3)), (v, .inr (10, [.int (nI pe), .int (nI lc), .int de, .ref v3, .ref v4, .ref v5, .ref v6, .ref v7, .ref v8, .ref v9, .ref v10, .ref v11, .ref v12, .ref v13, .int gl, .ref v15])), (v9, .inl (g.2.1 1, 72, .inl L))] → lv_has ls 8 [(7, .int (nI j3)), (3, .int (x3_1 ||| ((upd fyh_1 (tN (fyo_1 j1)) ((nbs L (nI (tN (fyo_1 j1))) lc) &&& (x3_1 ^^^ (-1 : Int32)))) (tN (fyo_1 j1))))), (6, .int (nI (tN (fyo_1 j1)))), (5, .int (nI j1)), (4, .int x4_3), (0, .ref y0), (1, .ref v), (2, .int (nI fo))] → W p l e (RM 4 0 0) s m args below meth c H locs 0 0 Q (F0 m 92 ls []) := by
              intro fu3
              induction fu3 with
              | zero =>
                intro j3 x4_3 fyo_3 hm3 hj3 hct3 hok3 hst3
                exact absurd hm3 (by omega)
              | succ fu3 ih3 =>
                intro j3 x4_3 fyo_3 hm3 hj3 hct3 hok3 hst3 H locs ls hW hl
                refine lv_iload (pc := 92) hx hb dX0_growTree_92 (lv_at hl 0 rfl) ?_
                refine lv_aload_n (pc := 94) hx hb dX0_growTree_94 rfl (lv_at hl 6 rfl) ?_
                refine r_getN X hW 4 ciX10 0 rfl (by decide) m_273 rfl rfl dX0_growTree_95 ?_
                refine lv_icmp_ge (tgt := 141) (pc := 98) hx hb dX0_growTree_98 rfl (fun c23 => ?_) (fun c23 => ?_)
                · have h24 : pe ≤ j3 := (nI_leI (a := pe) (b := j3) (by omega) (by omega)).mp c23
                  have hN3 : j3 = pe := by omega
                  rw [hN3] at hst3
                  have hs3_0 : x4_3 = (L3_X0_growTree lc L j1 x3_1 fyh_1 fyo_1 x4_1 fyo_1 pe).1 := congrArg (fun z => z.1) hst3
                  have hs3_1 : fyo_3 = (L3_X0_growTree lc L j1 x3_1 fyh_1 fyo_1 x4_1 fyo_1 pe).2 := congrArg (fun z => z.2) hst3
                  clear hst3
                  subst hs3_0
                  subst hs3_1
                  have hW : WD g A s _ _ [(y0, .inr (0, [gv, .int kn, .int on, .ref yc, .ref yt, .ref yh, .ref yo])), (yt, .inl (g.2.1 1, 7, .inl tm)), (yh, .inl (g.2.1 1, 7, .inl (upd fyh_1 (tN (fyo_1 j1)) ((nbs L (nI (tN (fyo_1 j1))) lc) &&& (x3_1 ^^^ (-1 : Int32)))))), (yo, .inl (g.2.1 1, 7, .inl ((L3_X0_growTree lc L j1 x3_1 fyh_1 fyo_1 x4_1 fyo_1 pe).2))), (v, .inr (10, [.int (nI pe), .int (nI lc), .int de, .ref v3, .ref v4, .ref v5, .ref v6, .ref v7, .ref v8, .ref v9, .ref v10, .ref v11, .ref v12, .ref v13, .int gl, .ref v15])), (v9, .inl (g.2.1 1, 72, .inl L))] := hW
                  refine lv_iinc (v := nI (j1 + 1)) (lv' := [(5, .int (nI (j1 + 1))), (7, .int (nI j3)), (3, .int (x3_1 ||| ((upd fyh_1 (tN (fyo_1 j1)) ((nbs L (nI (tN (fyo_1 j1))) lc) &&& (x3_1 ^^^ (-1 : Int32)))) (tN (fyo_1 j1))))), (6, .int (nI (tN (fyo_1 j1)))), (4, .int ((L3_X0_growTree lc L j1 x3_1 fyh_1 fyo_1 x4_1 fyo_1 pe).1)), (0, .ref y0), (1, .ref v), (2, .int (nI fo))]) (pc := 141) hx hb dX0_growTree_141 hl (k := 3) rfl (nI_add j1 1) (by decide) rfl (fun ls hl => ?_)
                  refine lv_goto (tgt := 39) (pc := 144) hx hb dX0_growTree_144 rfl ?_
                  exact ih1 (j1 + 1) ((L3_X0_growTree lc L j1 x3_1 fyh_1 fyo_1 x4_1 fyo_1 pe).1) (x3_1 ||| ((upd fyh_1 (tN (fyo_1 j1)) ((nbs L (nI (tN (fyo_1 j1))) lc) &&& (x3_1 ^^^ (-1 : Int32)))) (tN (fyo_1 j1)))) (upd fyh_1 (tN (fyo_1 j1)) ((nbs L (nI (tN (fyo_1 j1))) lc) &&& (x3_1 ^^^ (-1 : Int32)))) ((L3_X0_growTree lc L j1 x3_1 fyh_1 fyo_1 x4_1 fyo_1 pe).2) (by omega) (by omega) hct3 hok3 ((show L1_X0_growTree pe lc L tm (fu1 + 1) j1 x4_1 x3_1 fyh_1 fyo_1 = L1_X0_growTree pe lc L tm fu1 (j1 + 1) ((L3_X0_growTree lc L j1 x3_1 fyh_1 fyo_1 x4_1 fyo_1 pe).1) (x3_1 ||| ((upd fyh_1 (tN (fyo_1 j1)) ((nbs L (nI (tN (fyo_1 j1))) lc) &&& (x3_1 ^^^ (-1 : Int32)))) (tN (fyo_1 j1)))) (upd fyh_1 (tN (fyo_1 j1)) ((nbs L (nI (tN (fyo_1 j1))) lc) &&& (x3_1 ^^^ (-1 : Int32)))) ((L3_X0_growTree lc L j1 x3_1 fyh_1 fyo_1 x4_1 fyo_1 pe).2) from by rw [L1_X0_growTree, if_neg c9]).symm.trans hst1) _ _ _ hW (lv_sub hl [0, 4, 2, 5, 6, 7] rfl)
                · have h25 : ¬ (pe ≤ j3) := fun q => c23 ((nI_leI (a := pe) (b := j3) (by omega) (by omega)).mpr q)
                  have hct3b := hct3.2
                  refine lv_aload_n (pc := 101) hx hb dX0_growTree_101 rfl (lv_at hl 5 rfl) ?_
                  refine r_get X hW 0 ciX0 5 rfl (by decide) m_236 rfl rfl dX0_growTree_102 ?_
                  refine lv_iload (pc := 105) hx hb dX0_growTree_105 (lv_at hl 2 rfl) ?_
                  refine r_iald X hW 2 rfl (vp_in_nI (by omega) (by decide)) dX0_growTree_107 ?_
                  refine lv_topi (fun v26 ev26 => ?_)
                  obtain rfl : v26 = (upd fyh_1 (tN (fyo_1 j1)) ((nbs L (nI (tN (fyo_1 j1))) lc) &&& (x3_1 ^^^ (-1 : Int32)))) (tN (fyo_1 j1)) := ev26.trans (by rw [nI_clamp (by omega)])
                  refine lv_iload (pc := 108) hx hb dX0_growTree_108 (lv_at hl 0 rfl) ?_
                  refine c_SNi (pc := 110) (As := [.int ((upd fyh_1 (tN (fyo_1 j1)) ((nbs L (nI (tN (fyo_1 j1))) lc) &&& (x3_1 ^^^ (-1 : Int32)))) (tN (fyo_1 j1))), .int (nI j3)]) (rest := []) (wr := [(y0, .inr (0, [gv, .int kn, .int on, .ref yc, .ref yt, .ref yh, .ref yo])), (yt, .inl (g.2.1 1, 7, .inl tm)), (yh, .inl (g.2.1 1, 7, .inl (upd fyh_1 (tN (fyo_1 j1)) ((nbs L (nI (tN (fyo_1 j1))) lc) &&& (x3_1 ^^^ (-1 : Int32)))))), (yo, .inl (g.2.1 1, 7, .inl fyo_3)), (v, .inr (10, [.int (nI pe), .int (nI lc), .int de, .ref v3, .ref v4, .ref v5, .ref v6, .ref v7, .ref v8, .ref v9, .ref v10, .ref v11, .ref v12, .ref v13, .int gl, .ref v15])), (v9, .inl (g.2.1 1, 72, .inl L))]) X hW (C_X11_has l g ((upd fyh_1 (tN (fyo_1 j1)) ((nbs L (nI (tN (fyo_1 j1))) lc) &&& (x3_1 ^^^ (-1 : Int32)))) (tN (fyo_1 j1))) (nI j3)) vX0_54 [] [0, 1, 2, 3, 4, 5] rfl rfl rfl rfl rfl rfl hl.1 rfl (Nat.le_of_ble_eq_true rfl) ⟨Nat.le_of_ble_eq_true rfl, Nat.le_of_ble_eq_true rfl⟩ ⟨Nat.le_of_ble_eq_true rfl, Nat.le_of_ble_eq_true rfl⟩ dX0_growTree_110 (fun r27 u9 H locs hq hW => ?_)
                  obtain ⟨rfl, rfl⟩ := hq
                  have hW : WD g A s _ _ [(y0, .inr (0, [gv, .int kn, .int on, .ref yc, .ref yt, .ref yh, .ref yo])), (yt, .inl (g.2.1 1, 7, .inl tm)), (yh, .inl (g.2.1 1, 7, .inl (upd fyh_1 (tN (fyo_1 j1)) ((nbs L (nI (tN (fyo_1 j1))) lc) &&& (x3_1 ^^^ (-1 : Int32)))))), (yo, .inl (g.2.1 1, 7, .inl fyo_3)), (v, .inr (10, [.int (nI pe), .int (nI lc), .int de, .ref v3, .ref v4, .ref v5, .ref v6, .ref v7, .ref v8, .ref v9, .ref v10, .ref v11, .ref v12, .ref v13, .int gl, .ref v15])), (v9, .inl (g.2.1 1, 72, .inl L))] := hW
                  refine lv_if_eq (tgt := 135) (pc := 113) hx hb dX0_growTree_113 rfl (fun c28 => ?_) (fun c28 => ?_)
                  · refine lv_iinc (v := nI (j3 + 1)) (lv' := [(7, .int (nI (j3 + 1))), (3, .int (x3_1 ||| ((upd fyh_1 (tN (fyo_1 j1)) ((nbs L (nI (tN (fyo_1 j1))) lc) &&& (x3_1 ^^^ (-1 : Int32)))) (tN (fyo_1 j1))))), (6, .int (nI (tN (fyo_1 j1)))), (5, .int (nI j1)), (4, .int x4_3), (0, .ref y0), (1, .ref v), (2, .int (nI fo))]) (pc := 135) hx hb dX0_growTree_135 hl (k := 0) rfl (nI_add j3 1) (by decide) rfl (fun ls hl => ?_)
                    refine lv_goto (tgt := 92) (pc := 138) hx hb dX0_growTree_138 rfl ?_
                    exact ih3 (j3 + 1) x4_3 fyo_3 (by omega) (by omega) (by first | exact hct3 | exact ct7 hct3.1 (by omega)) (by first | exact hok3 | exact ok7_in hct3.1 (by omega) hok3 (by omega)) (by rw [L3_X0_growTree, ← hst3]; exact (show L3_X0_growTrees lc L j1 x3_1 fyh_1 fyo_1 j3 x4_3 fyo_3 = (x4_3, fyo_3) from by rw [L3_X0_growTrees, if_pos c28]).symm) _ _ _ hW (lv_sub hl [0, 1, 2, 3, 4, 5, 6, 7] rfl)
                  · refine lv_iload (pc := 116) hx hb dX0_growTree_116 (lv_at hl 4 rfl) ?_
                    rw [hct3.1]
                    refine lv_bipush (v := 7) (pc := 118) hx hb dX0_growTree_118 (by decide) ?_
                    refine lv_icmp_ge (tgt := 135) (pc := 120) hx hb dX0_growTree_120 rfl (fun c31 => ?_) (fun c31 => ?_)
                    · have h32 : 7 ≤ (tN x4_3) := (nI_leI (a := 7) (b := (tN x4_3)) (by omega) (by omega)).mp c31
                      refine lv_iinc (v := nI (j3 + 1)) (lv' := [(7, .int (nI (j3 + 1))), (3, .int (x3_1 ||| ((upd fyh_1 (tN (fyo_1 j1)) ((nbs L (nI (tN (fyo_1 j1))) lc) &&& (x3_1 ^^^ (-1 : Int32)))) (tN (fyo_1 j1))))), (6, .int (nI (tN (fyo_1 j1)))), (5, .int (nI j1)), (4, .int x4_3), (0, .ref y0), (1, .ref v), (2, .int (nI fo))]) (pc := 135) hx hb dX0_growTree_135 hl (k := 0) rfl (nI_add j3 1) (by decide) rfl (fun ls hl => ?_)
                      refine lv_goto (tgt := 92) (pc := 138) hx hb dX0_growTree_138 rfl ?_
                      exact ih3 (j3 + 1) x4_3 fyo_3 (by omega) (by omega) (by first | exact hct3 | exact ct7 hct3.1 (by omega)) (by first | exact hok3 | exact ok7_in hct3.1 (by omega) hok3 (by omega)) (by rw [L3_X0_growTree, ← hst3]; exact (show L3_X0_growTrees lc L j1 x3_1 fyh_1 fyo_1 j3 x4_3 fyo_3 = (x4_3, fyo_3) from by rw [L3_X0_growTrees, if_neg c28, if_pos c31]).symm) _ _ _ hW (lv_sub hl [0, 1, 2, 3, 4, 5, 6, 7] rfl)
                    · have h33 : ¬ (7 ≤ (tN x4_3)) := fun q => c31 ((nI_leI (a := 7) (b := (tN x4_3)) (by omega) (by omega)).mpr q)
                      refine lv_aload_n (pc := 123) hx hb dX0_growTree_123 rfl (lv_at hl 5 rfl) ?_
                      refine r_get X hW 0 ciX0 6 rfl (by decide) m_237 rfl rfl dX0_growTree_124 ?_
                      refine lv_iload (pc := 127) hx hb dX0_growTree_127 (lv_at hl 4 rfl) ?_
                      rw [hct3.1]
                      refine lv_iload (pc := 129) hx hb dX0_growTree_129 (lv_at hl 0 rfl) ?_
                      refine r_iast (ws' := [(y0, .inr (0, [gv, .int kn, .int on, .ref yc, .ref yt, .ref yh, .ref yo])), (yt, .inl (g.2.1 1, 7, .inl tm)), (yh, .inl (g.2.1 1, 7, .inl (upd fyh_1 (tN (fyo_1 j1)) ((nbs L (nI (tN (fyo_1 j1))) lc) &&& (x3_1 ^^^ (-1 : Int32)))))), (yo, .inl (g.2.1 1, 7, .inl (upd fyo_3 (tN x4_3) (nI j3)))), (v, .inr (10, [.int (nI pe), .int (nI lc), .int de, .ref v3, .ref v4, .ref v5, .ref v6, .ref v7, .ref v8, .ref v9, .ref v10, .ref v11, .ref v12, .ref v13, .int gl, .ref v15])), (v9, .inl (g.2.1 1, 72, .inl L))]) X hW 3 rfl (vp_in_nI (by omega) (by decide)) (f' := (upd fyo_3 (tN x4_3) (nI j3))) (by rw [nI_clamp (by omega)]) rfl dX0_growTree_131 (fun H locs hW => ?_)
                      refine lv_iinc (v := x4_3 + 1) (lv' := [(4, .int (x4_3 + 1)), (7, .int (nI j3)), (3, .int (x3_1 ||| ((upd fyh_1 (tN (fyo_1 j1)) ((nbs L (nI (tN (fyo_1 j1))) lc) &&& (x3_1 ^^^ (-1 : Int32)))) (tN (fyo_1 j1))))), (6, .int (nI (tN (fyo_1 j1)))), (5, .int (nI j1)), (0, .ref y0), (1, .ref v), (2, .int (nI fo))]) (pc := 132) hx hb dX0_growTree_132 hl (k := 4) rfl (rfl) (by decide) rfl (fun ls hl => ?_)
                      refine lv_iinc (v := nI (j3 + 1)) (lv' := [(7, .int (nI (j3 + 1))), (4, .int (x4_3 + 1)), (3, .int (x3_1 ||| ((upd fyh_1 (tN (fyo_1 j1)) ((nbs L (nI (tN (fyo_1 j1))) lc) &&& (x3_1 ^^^ (-1 : Int32)))) (tN (fyo_1 j1))))), (6, .int (nI (tN (fyo_1 j1)))), (5, .int (nI j1)), (0, .ref y0), (1, .ref v), (2, .int (nI fo))]) (pc := 135) hx hb dX0_growTree_135 hl (k := 1) rfl (nI_add j3 1) (by decide) rfl (fun ls hl => ?_)
                      refine lv_goto (tgt := 92) (pc := 138) hx hb dX0_growTree_138 rfl ?_
                      exact ih3 (j3 + 1) (x4_3 + 1) (upd fyo_3 (tN x4_3) (nI j3)) (by omega) (by omega) (by first | exact hct3 | exact ct7 hct3.1 (by omega)) (by first | exact hok3 | exact ok7_in hct3.1 (by omega) hok3 (by omega)) (by rw [L3_X0_growTree, ← hst3]; exact (show L3_X0_growTrees lc L j1 x3_1 fyh_1 fyo_1 j3 x4_3 fyo_3 = (x4_3 + 1, (upd fyo_3 (tN x4_3) (nI j3))) from by rw [L3_X0_growTrees, if_neg c28, if_neg c31]).symm) _ _ _ hW (lv_sub hl [0, 2, 3, 4, 1, 5, 6, 7] rfl)
            exact loop3 (pe + 1) 0 x4_1 fyo_1 (by omega) (by omega) hct1 hok1 rfl _ _ _ hW (lv_sub hl [0, 1, 2, 3, 4, 5, 6, 7] rfl)
      exact loop1 (7 + 1) 0 (1 : Int32) ((1 : Int32) <<< ((nI fo) &&& 31)) ch (upd od 0 (nI fo)) (by omega) (by omega) (by decide) (ok7_one (by omega)) (show F_X0_growTree pe lc L tm ch od fo = L1_X0_growTree pe lc L tm (7 + 1) 0 (1 : Int32) ((1 : Int32) <<< ((nI fo) &&& 31)) ch (upd od 0 (nI fo)) from by rw [F_X0_growTree, if_pos c3, if_neg c7]).symm _ _ _ hW (lv_sub hl [0, 1, 2, 3, 4, 5] rfl)
    · refine lv_iconst (v := 0) (pc := 20) hx hb dX0_growTree_20 (by decide) ?_
      have hF : F_X0_growTree pe lc L tm ch od fo = ((0 : Int32), tm, ch, od) := show F_X0_growTree pe lc L tm ch od fo = ((0 : Int32), tm, ch, od) from by rw [F_X0_growTree, if_pos c3, if_pos c7]
      exact e_z (u := [(y0, .inr (0, [gv, .int kn, .int on, .ref yc, .ref yt, .ref yh, .ref yo])), (yt, .inl (g.2.1 1, 7, .inl tm)), (yh, .inl (g.2.1 1, 7, .inl ch)), (yo, .inl (g.2.1 1, 7, .inl od)), (v, .inr (10, [.int (nI pe), .int (nI lc), .int de, .ref v3, .ref v4, .ref v5, .ref v6, .ref v7, .ref v8, .ref v9, .ref v10, .ref v11, .ref v12, .ref v13, .int gl, .ref v15])), (v9, .inl (g.2.1 1, 72, .inl L))]) X hQ hr (hW) rfl [0, 1, 2, 3, 4, 5] rfl rfl (⟨(congrArg Prod.fst hF).symm, by rw [hF]⟩) ⟨Nat.le_of_ble_eq_true rfl, Nat.le_of_ble_eq_true rfl⟩ dX0_growTree_21

def F_X11_tree0  : Int32 := (-1 : Int32)
set_option maxHeartbeats 4000000 in
set_option maxRecDepth 100000 in
theorem K_X11_tree0 (l : Launch) (g : GG) (h0 : Nat) (a0 : Nat) (a1 : Nat) (a2 : Nat) (a3 : Nat) (a4 : Nat) (a5 : Nat) (a6 : Nat) (a7 : Nat) (a8 : Nat) (a9 : Nat) (a10 : Nat) (nv : Nat) (np : Nat) (cc : Int32) (fA : Nat → Option Nat) (x : Int32) (y : Int32) (z : Int32) (t : Int32) (hbad : x < 0 ∨ nI nv ≤ x) : MetI l g yX11_tree cX11_tree 6 (some .int) 1 0 0 [.ref h0, .int x, .int y, .int z, .int t] [(h0, .inr (11, [.ref a0, .ref a1, .ref a2, .ref a3, .ref a4, .ref a5, .ref a6, .ref a7, .ref a8, .ref a9, .ref a10, .int (nI nv), .int (nI np), .int cc])), (a1, .inl (g.2.1 4, 10, .inr (.inr (.inr (.inr fA)))))] (fun r u => r = F_X11_tree0 ∧ u = [(h0, .inr (11, [.ref a0, .ref a1, .ref a2, .ref a3, .ref a4, .ref a5, .ref a6, .ref a7, .ref a8, .ref a9, .ref a10, .int (nI nv), .int (nI np), .int cc])), (a1, .inl (g.2.1 4, 10, .inr (.inr (.inr (.inr fA)))))]) := by
  refine MetI.of (own := RX11) rfl (by decide) (Nat.le_of_ble_eq_true rfl) ?_
  intro p e s m below meth c A ls args Q hQ X hr hin hW hl
  have hx := X.1
  have hb := X.2.1
  have hl : lv_has ls 6 [(0, .ref h0), (1, .int x), (2, .int y), (3, .int z), (4, .int t)] := hl
  refine lv_aload_n (pc := 0) hx hb dX11_tree_0 rfl (lv_at hl 0 rfl) ?_
  refine lv_iload_n (pc := 1) hx hb dX11_tree_1 rfl (lv_at hl 1 rfl) ?_
  refine c_Vq (pc := 2) (As := [.int x]) (rest := []) (wr := []) X hW 0 ciX11 rfl (C_X11_valleyAt0 l g h0 a0 a1 a2 a3 a4 a5 a6 a7 a8 a9 a10 nv np cc fA x hbad) vX11_101 [0, 1] [] rfl rfl rfl rfl rfl rfl hl.1 rfl (Nat.le_of_ble_eq_true rfl) ⟨Nat.le_of_ble_eq_true rfl, Nat.le_of_ble_eq_true rfl⟩ ⟨Nat.le_of_ble_eq_true rfl, Nat.le_of_ble_eq_true rfl⟩ dX11_tree_2 (fun r1 u9 H locs hq hW => ?_)
  obtain ⟨rfl, rfl⟩ := hq
  have hW : WD g A s _ _ [(h0, .inr (11, [.ref a0, .ref a1, .ref a2, .ref a3, .ref a4, .ref a5, .ref a6, .ref a7, .ref a8, .ref a9, .ref a10, .int (nI nv), .int (nI np), .int cc])), (a1, .inl (g.2.1 4, 10, .inr (.inr (.inr (.inr fA)))))] := hW
  refine lv_astoreN (lv' := [(5, .null), (0, .ref h0), (1, .int x), (2, .int y), (3, .int z), (4, .int t)]) (pc := 5) hx hb dX11_tree_5 hl (by decide) rfl (fun ls hl => ?_)
  refine lv_aloadN (pc := 7) hx hb dX11_tree_7 (lv_at hl 0 rfl) ?_
  refine lv_ifnullN (tgt := 49) (pc := 9) hx hb dX11_tree_9 rfl ?_
  refine lv_iconst (v := (-1)) (pc := 49) hx hb dX11_tree_49 (by decide) ?_
  have hF : F_X11_tree0 = (-1 : Int32) := show F_X11_tree0 = (-1 : Int32) from rfl
  exact e_i (u := [(h0, .inr (11, [.ref a0, .ref a1, .ref a2, .ref a3, .ref a4, .ref a5, .ref a6, .ref a7, .ref a8, .ref a9, .ref a10, .int (nI nv), .int (nI np), .int cc])), (a1, .inl (g.2.1 4, 10, .inr (.inr (.inr (.inr fA)))))]) X hQ hr (hW) [0, 1] rfl rfl (⟨hF.symm, rfl⟩) ⟨Nat.le_of_ble_eq_true rfl, Nat.le_of_ble_eq_true rfl⟩ dX11_tree_50

def F_X11_tree1 (pe : Nat) (lc : Nat) (L : Nat → Int32) (tm : Nat → Int32) (ch : Nat → Int32) (od : Nat → Int32) (y : Int32) (z : Int32) (t : Int32) : Int32 × (Nat → Int32) × (Nat → Int32) × (Nat → Int32) := if F_X10_hasPerson (nI pe) y = 0 then (((-1 : Int32), tm, ch, od)) else (if F_X10_hasPerson (nI pe) z = 0 then (((-1 : Int32), tm, ch, od)) else (if t < (-1) then (((-1 : Int32), tm, ch, od)) else (if (F_X0_growTree pe lc L tm ch od (tN y)).1 = 0 then (((-1 : Int32), ((F_X0_growTree pe lc L tm ch od (tN y)).2.1), ((F_X0_growTree pe lc L tm ch od (tN y)).2.2.1), ((F_X0_growTree pe lc L tm ch od (tN y)).2.2.2))) else (if t = (-1) then ((((F_X0_growTree pe lc L tm ch od (tN y)).2.1) (tN z), ((F_X0_growTree pe lc L tm ch od (tN y)).2.1), ((F_X0_growTree pe lc L tm ch od (tN y)).2.2.1), ((F_X0_growTree pe lc L tm ch od (tN y)).2.2.2))) else (((F_X0_below ((F_X0_growTree pe lc L tm ch od (tN y)).2.1) ((F_X0_growTree pe lc L tm ch od (tN y)).2.2.1) (tN z) t), ((F_X0_growTree pe lc L tm ch od (tN y)).2.1), ((F_X0_growTree pe lc L tm ch od (tN y)).2.2.1), ((F_X0_growTree pe lc L tm ch od (tN y)).2.2.2)))))))
set_option maxHeartbeats 4000000 in
set_option maxRecDepth 100000 in
theorem K_X11_tree1 (l : Launch) (g : GG) (h0 : Nat) (a0 : Nat) (a1 : Nat) (a2 : Nat) (a3 : Nat) (a4 : Nat) (a5 : Nat) (a6 : Nat) (a7 : Nat) (a8 : Nat) (a9 : Nat) (a10 : Nat) (nv : Nat) (np : Nat) (cc : Int32) (fA : Nat → Option Nat) (i : Nat) (gv : Value) (yc : Nat) (yt : Nat) (yh : Nat) (yo : Nat) (kn : Int32) (on : Int32) (v : Nat) (v3 : Nat) (v4 : Nat) (v5 : Nat) (v6 : Nat) (v7 : Nat) (v8 : Nat) (v9 : Nat) (v10 : Nat) (v11 : Nat) (v12 : Nat) (v13 : Nat) (v15 : Nat) (pe : Nat) (lc : Nat) (de : Int32) (gl : Int32) (L : Nat → Int32) (tm : Nat → Int32) (ch : Nat → Int32) (od : Nat → Int32) (y : Int32) (z : Int32) (t : Int32) (hi : i < nv) (hn : nv ≤ 10) (hA : fA i = some v) (hpe : pe ≤ 7) (hlc : lc ≤ 12) : MetI l g yX11_tree cX11_tree 6 (some .int) 5 0 0 [.ref h0, .int (nI i), .int y, .int z, .int t] [(h0, .inr (11, [.ref a0, .ref a1, .ref a2, .ref a3, .ref a4, .ref a5, .ref a6, .ref a7, .ref a8, .ref a9, .ref a10, .int (nI nv), .int (nI np), .int cc])), (a1, .inl (g.2.1 4, 10, .inr (.inr (.inr (.inr fA))))), (a8, .inr (0, [gv, .int kn, .int on, .ref yc, .ref yt, .ref yh, .ref yo])), (yt, .inl (g.2.1 1, 7, .inl tm)), (yh, .inl (g.2.1 1, 7, .inl ch)), (yo, .inl (g.2.1 1, 7, .inl od)), (v, .inr (10, [.int (nI pe), .int (nI lc), .int de, .ref v3, .ref v4, .ref v5, .ref v6, .ref v7, .ref v8, .ref v9, .ref v10, .ref v11, .ref v12, .ref v13, .int gl, .ref v15])), (v9, .inl (g.2.1 1, 72, .inl L))] (fun r u => r = (F_X11_tree1 pe lc L tm ch od y z t).1 ∧ u = [(h0, .inr (11, [.ref a0, .ref a1, .ref a2, .ref a3, .ref a4, .ref a5, .ref a6, .ref a7, .ref a8, .ref a9, .ref a10, .int (nI nv), .int (nI np), .int cc])), (a1, .inl (g.2.1 4, 10, .inr (.inr (.inr (.inr fA))))), (a8, .inr (0, [gv, .int kn, .int on, .ref yc, .ref yt, .ref yh, .ref yo])), (yt, .inl (g.2.1 1, 7, .inl ((F_X11_tree1 pe lc L tm ch od y z t).2.1))), (yh, .inl (g.2.1 1, 7, .inl ((F_X11_tree1 pe lc L tm ch od y z t).2.2.1))), (yo, .inl (g.2.1 1, 7, .inl ((F_X11_tree1 pe lc L tm ch od y z t).2.2.2))), (v, .inr (10, [.int (nI pe), .int (nI lc), .int de, .ref v3, .ref v4, .ref v5, .ref v6, .ref v7, .ref v8, .ref v9, .ref v10, .ref v11, .ref v12, .ref v13, .int gl, .ref v15])), (v9, .inl (g.2.1 1, 72, .inl L))]) := by
  refine MetI.of (own := RX11) rfl (by decide) (Nat.le_of_ble_eq_true rfl) ?_
  intro p e s m below meth c A ls args Q hQ X hr hin hW hl
  have hx := X.1
  have hb := X.2.1
  have hl : lv_has ls 6 [(0, .ref h0), (1, .int (nI i)), (2, .int y), (3, .int z), (4, .int t)] := hl
  refine lv_aload_n (pc := 0) hx hb dX11_tree_0 rfl (lv_at hl 0 rfl) ?_
  refine lv_iload_n (pc := 1) hx hb dX11_tree_1 rfl (lv_at hl 1 rfl) ?_
  refine c_Vq (pc := 2) (As := [.int (nI i)]) (rest := []) (wr := [(a8, .inr (0, [gv, .int kn, .int on, .ref yc, .ref yt, .ref yh, .ref yo])), (yt, .inl (g.2.1 1, 7, .inl tm)), (yh, .inl (g.2.1 1, 7, .inl ch)), (yo, .inl (g.2.1 1, 7, .inl od)), (v, .inr (10, [.int (nI pe), .int (nI lc), .int de, .ref v3, .ref v4, .ref v5, .ref v6, .ref v7, .ref v8, .ref v9, .ref v10, .ref v11, .ref v12, .ref v13, .int gl, .ref v15])), (v9, .inl (g.2.1 1, 72, .inl L))]) X hW 0 ciX11 rfl (C_X11_valleyAt1 l g h0 a0 a1 a2 a3 a4 a5 a6 a7 a8 a9 a10 nv np cc fA i v (by omega) (by omega) hA) vX11_101 [0, 1] [2, 3, 4, 5, 6, 7] rfl rfl rfl rfl rfl rfl hl.1 rfl (Nat.le_of_ble_eq_true rfl) ⟨Nat.le_of_ble_eq_true rfl, Nat.le_of_ble_eq_true rfl⟩ ⟨Nat.le_of_ble_eq_true rfl, Nat.le_of_ble_eq_true rfl⟩ dX11_tree_2 (fun r1 u9 H locs hq hW => ?_)
  obtain ⟨rfl, rfl⟩ := hq
  have hW : WD g A s _ _ [(a8, .inr (0, [gv, .int kn, .int on, .ref yc, .ref yt, .ref yh, .ref yo])), (yt, .inl (g.2.1 1, 7, .inl tm)), (yh, .inl (g.2.1 1, 7, .inl ch)), (yo, .inl (g.2.1 1, 7, .inl od)), (v, .inr (10, [.int (nI pe), .int (nI lc), .int de, .ref v3, .ref v4, .ref v5, .ref v6, .ref v7, .ref v8, .ref v9, .ref v10, .ref v11, .ref v12, .ref v13, .int gl, .ref v15])), (v9, .inl (g.2.1 1, 72, .inl L)), (h0, .inr (11, [.ref a0, .ref a1, .ref a2, .ref a3, .ref a4, .ref a5, .ref a6, .ref a7, .ref a8, .ref a9, .ref a10, .int (nI nv), .int (nI np), .int cc])), (a1, .inl (g.2.1 4, 10, .inr (.inr (.inr (.inr fA)))))] := hW
  refine lv_astore (lv' := [(5, .ref v), (0, .ref h0), (1, .int (nI i)), (2, .int y), (3, .int z), (4, .int t)]) (pc := 5) hx hb dX11_tree_5 hl (by decide) rfl (fun ls hl => ?_)
  refine lv_aload (pc := 7) hx hb dX11_tree_7 (lv_at hl 0 rfl) ?_
  refine lv_ifnull (pc := 9) hx hb dX11_tree_9 ?_
  refine lv_aload (pc := 12) hx hb dX11_tree_12 (lv_at hl 0 rfl) ?_
  refine lv_iload_n (pc := 14) hx hb dX11_tree_14 rfl (lv_at hl 3 rfl) ?_
  refine c_Vi (pc := 15) (As := [.int y]) (rest := []) (wr := [(a8, .inr (0, [gv, .int kn, .int on, .ref yc, .ref yt, .ref yh, .ref yo])), (yt, .inl (g.2.1 1, 7, .inl tm)), (yh, .inl (g.2.1 1, 7, .inl ch)), (yo, .inl (g.2.1 1, 7, .inl od)), (v9, .inl (g.2.1 1, 72, .inl L)), (h0, .inr (11, [.ref a0, .ref a1, .ref a2, .ref a3, .ref a4, .ref a5, .ref a6, .ref a7, .ref a8, .ref a9, .ref a10, .int (nI nv), .int (nI np), .int cc])), (a1, .inl (g.2.1 4, 10, .inr (.inr (.inr (.inr fA)))))]) X hW 4 ciX10 rfl (K_X10_hasPerson l g v v3 v4 v5 v6 v7 v8 v9 v10 v11 v12 v13 v15 (nI pe) (nI lc) de gl y) vX11_168 [4] [0, 1, 2, 3, 5, 6, 7] rfl rfl rfl rfl rfl rfl hl.1 rfl (Nat.le_of_ble_eq_true rfl) ⟨Nat.le_of_ble_eq_true rfl, Nat.le_of_ble_eq_true rfl⟩ ⟨Nat.le_of_ble_eq_true rfl, Nat.le_of_ble_eq_true rfl⟩ dX11_tree_15 (fun r2 u9 H locs hq hW => ?_)
  obtain ⟨rfl, rfl⟩ := hq
  have hW : WD g A s _ _ [(a8, .inr (0, [gv, .int kn, .int on, .ref yc, .ref yt, .ref yh, .ref yo])), (yt, .inl (g.2.1 1, 7, .inl tm)), (yh, .inl (g.2.1 1, 7, .inl ch)), (yo, .inl (g.2.1 1, 7, .inl od)), (v9, .inl (g.2.1 1, 72, .inl L)), (h0, .inr (11, [.ref a0, .ref a1, .ref a2, .ref a3, .ref a4, .ref a5, .ref a6, .ref a7, .ref a8, .ref a9, .ref a10, .int (nI nv), .int (nI np), .int cc])), (a1, .inl (g.2.1 4, 10, .inr (.inr (.inr (.inr fA))))), (v, .inr (10, [.int (nI pe), .int (nI lc), .int de, .ref v3, .ref v4, .ref v5, .ref v6, .ref v7, .ref v8, .ref v9, .ref v10, .ref v11, .ref v12, .ref v13, .int gl, .ref v15]))] := hW
  refine lv_if_eq (tgt := 49) (pc := 18) hx hb dX11_tree_18 rfl (fun c3 => ?_) (fun c3 => ?_)
  · refine lv_iconst (v := (-1)) (pc := 49) hx hb dX11_tree_49 (by decide) ?_
    have hF : F_X11_tree1 pe lc L tm ch od y z t = ((-1 : Int32), tm, ch, od) := show F_X11_tree1 pe lc L tm ch od y z t = ((-1 : Int32), tm, ch, od) from by rw [F_X11_tree1, if_pos c3]
    exact e_i (u := [(h0, .inr (11, [.ref a0, .ref a1, .ref a2, .ref a3, .ref a4, .ref a5, .ref a6, .ref a7, .ref a8, .ref a9, .ref a10, .int (nI nv), .int (nI np), .int cc])), (a1, .inl (g.2.1 4, 10, .inr (.inr (.inr (.inr fA))))), (a8, .inr (0, [gv, .int kn, .int on, .ref yc, .ref yt, .ref yh, .ref yo])), (yt, .inl (g.2.1 1, 7, .inl tm)), (yh, .inl (g.2.1 1, 7, .inl ch)), (yo, .inl (g.2.1 1, 7, .inl od)), (v, .inr (10, [.int (nI pe), .int (nI lc), .int de, .ref v3, .ref v4, .ref v5, .ref v6, .ref v7, .ref v8, .ref v9, .ref v10, .ref v11, .ref v12, .ref v13, .int gl, .ref v15])), (v9, .inl (g.2.1 1, 72, .inl L))]) X hQ hr (hW) [5, 6, 0, 1, 2, 3, 7, 4] rfl rfl (⟨(congrArg Prod.fst hF).symm, by rw [hF]⟩) ⟨Nat.le_of_ble_eq_true rfl, Nat.le_of_ble_eq_true rfl⟩ dX11_tree_50
  · have hfy := hl_at (x := y) (n := pe) (by omega) (show ¬ F_X10_hasLine (nI pe) y = 0 from c3)
    have hfy2 := hfy.2
    rw [hfy.1] at hl
    refine lv_aload (pc := 21) hx hb dX11_tree_21 (lv_at hl 0 rfl) ?_
    refine lv_iload_n (pc := 23) hx hb dX11_tree_23 rfl (lv_at hl 4 rfl) ?_
    refine c_Vi (pc := 24) (As := [.int z]) (rest := []) (wr := [(a8, .inr (0, [gv, .int kn, .int on, .ref yc, .ref yt, .ref yh, .ref yo])), (yt, .inl (g.2.1 1, 7, .inl tm)), (yh, .inl (g.2.1 1, 7, .inl ch)), (yo, .inl (g.2.1 1, 7, .inl od)), (v9, .inl (g.2.1 1, 72, .inl L)), (h0, .inr (11, [.ref a0, .ref a1, .ref a2, .ref a3, .ref a4, .ref a5, .ref a6, .ref a7, .ref a8, .ref a9, .ref a10, .int (nI nv), .int (nI np), .int cc])), (a1, .inl (g.2.1 4, 10, .inr (.inr (.inr (.inr fA)))))]) X hW 7 ciX10 rfl (K_X10_hasPerson l g v v3 v4 v5 v6 v7 v8 v9 v10 v11 v12 v13 v15 (nI pe) (nI lc) de gl z) vX11_168 [7] [0, 1, 2, 3, 4, 5, 6] rfl rfl rfl rfl rfl rfl hl.1 rfl (Nat.le_of_ble_eq_true rfl) ⟨Nat.le_of_ble_eq_true rfl, Nat.le_of_ble_eq_true rfl⟩ ⟨Nat.le_of_ble_eq_true rfl, Nat.le_of_ble_eq_true rfl⟩ dX11_tree_24 (fun r6 u9 H locs hq hW => ?_)
    obtain ⟨rfl, rfl⟩ := hq
    have hW : WD g A s _ _ [(a8, .inr (0, [gv, .int kn, .int on, .ref yc, .ref yt, .ref yh, .ref yo])), (yt, .inl (g.2.1 1, 7, .inl tm)), (yh, .inl (g.2.1 1, 7, .inl ch)), (yo, .inl (g.2.1 1, 7, .inl od)), (v9, .inl (g.2.1 1, 72, .inl L)), (h0, .inr (11, [.ref a0, .ref a1, .ref a2, .ref a3, .ref a4, .ref a5, .ref a6, .ref a7, .ref a8, .ref a9, .ref a10, .int (nI nv), .int (nI np), .int cc])), (a1, .inl (g.2.1 4, 10, .inr (.inr (.inr (.inr fA))))), (v, .inr (10, [.int (nI pe), .int (nI lc), .int de, .ref v3, .ref v4, .ref v5, .ref v6, .ref v7, .ref v8, .ref v9, .ref v10, .ref v11, .ref v12, .ref v13, .int gl, .ref v15]))] := hW
    refine lv_if_eq (tgt := 49) (pc := 27) hx hb dX11_tree_27 rfl (fun c7 => ?_) (fun c7 => ?_)
    · refine lv_iconst (v := (-1)) (pc := 49) hx hb dX11_tree_49 (by decide) ?_
      have hF : F_X11_tree1 pe lc L tm ch od y z t = ((-1 : Int32), tm, ch, od) := show F_X11_tree1 pe lc L tm ch od y z t = ((-1 : Int32), tm, ch, od) from by rw [F_X11_tree1, if_neg c3, if_pos c7]
      exact e_i (u := [(h0, .inr (11, [.ref a0, .ref a1, .ref a2, .ref a3, .ref a4, .ref a5, .ref a6, .ref a7, .ref a8, .ref a9, .ref a10, .int (nI nv), .int (nI np), .int cc])), (a1, .inl (g.2.1 4, 10, .inr (.inr (.inr (.inr fA))))), (a8, .inr (0, [gv, .int kn, .int on, .ref yc, .ref yt, .ref yh, .ref yo])), (yt, .inl (g.2.1 1, 7, .inl tm)), (yh, .inl (g.2.1 1, 7, .inl ch)), (yo, .inl (g.2.1 1, 7, .inl od)), (v, .inr (10, [.int (nI pe), .int (nI lc), .int de, .ref v3, .ref v4, .ref v5, .ref v6, .ref v7, .ref v8, .ref v9, .ref v10, .ref v11, .ref v12, .ref v13, .int gl, .ref v15])), (v9, .inl (g.2.1 1, 72, .inl L))]) X hQ hr (hW) [5, 6, 0, 1, 2, 3, 7, 4] rfl rfl (⟨(congrArg Prod.fst hF).symm, by rw [hF]⟩) ⟨Nat.le_of_ble_eq_true rfl, Nat.le_of_ble_eq_true rfl⟩ dX11_tree_50
    · have hfz := hl_at (x := z) (n := pe) (by omega) (show ¬ F_X10_hasLine (nI pe) z = 0 from c7)
      have hfz2 := hfz.2
      rw [hfz.1] at hl
      refine lv_iload (pc := 30) hx hb dX11_tree_30 (lv_at hl 5 rfl) ?_
      refine lv_iconst (v := (-1)) (pc := 32) hx hb dX11_tree_32 (by decide) ?_
      refine lv_icmp_lt (tgt := 49) (pc := 33) hx hb dX11_tree_33 rfl (fun c10 => ?_) (fun c10 => ?_)
      · refine lv_iconst (v := (-1)) (pc := 49) hx hb dX11_tree_49 (by decide) ?_
        have hF : F_X11_tree1 pe lc L tm ch od y z t = ((-1 : Int32), tm, ch, od) := show F_X11_tree1 pe lc L tm ch od y z t = ((-1 : Int32), tm, ch, od) from by rw [F_X11_tree1, if_neg c3, if_neg c7, if_pos c10]
        exact e_i (u := [(h0, .inr (11, [.ref a0, .ref a1, .ref a2, .ref a3, .ref a4, .ref a5, .ref a6, .ref a7, .ref a8, .ref a9, .ref a10, .int (nI nv), .int (nI np), .int cc])), (a1, .inl (g.2.1 4, 10, .inr (.inr (.inr (.inr fA))))), (a8, .inr (0, [gv, .int kn, .int on, .ref yc, .ref yt, .ref yh, .ref yo])), (yt, .inl (g.2.1 1, 7, .inl tm)), (yh, .inl (g.2.1 1, 7, .inl ch)), (yo, .inl (g.2.1 1, 7, .inl od)), (v, .inr (10, [.int (nI pe), .int (nI lc), .int de, .ref v3, .ref v4, .ref v5, .ref v6, .ref v7, .ref v8, .ref v9, .ref v10, .ref v11, .ref v12, .ref v13, .int gl, .ref v15])), (v9, .inl (g.2.1 1, 72, .inl L))]) X hQ hr (hW) [5, 6, 0, 1, 2, 3, 7, 4] rfl rfl (⟨(congrArg Prod.fst hF).symm, by rw [hF]⟩) ⟨Nat.le_of_ble_eq_true rfl, Nat.le_of_ble_eq_true rfl⟩ dX11_tree_50
      · refine lv_aload_n (pc := 36) hx hb dX11_tree_36 rfl (lv_at hl 1 rfl) ?_
        refine r_get X hW 5 ciX11 8 rfl (by decide) m_361 rfl rfl dX11_tree_37 ?_
        refine lv_aload (pc := 40) hx hb dX11_tree_40 (lv_at hl 0 rfl) ?_
        refine lv_iload_n (pc := 42) hx hb dX11_tree_42 rfl (lv_at hl 3 rfl) ?_
        refine c_Vi (pc := 43) (As := [.ref v, .int (nI (tN y))]) (rest := []) (wr := [(h0, .inr (11, [.ref a0, .ref a1, .ref a2, .ref a3, .ref a4, .ref a5, .ref a6, .ref a7, .ref a8, .ref a9, .ref a10, .int (nI nv), .int (nI np), .int cc])), (a1, .inl (g.2.1 4, 10, .inr (.inr (.inr (.inr fA)))))]) X hW 0 ciX0 rfl (K_X0_growTree l g gv a8 yc yt yh yo kn on v v3 v4 v5 v6 v7 v8 v9 v10 v11 v12 v13 v15 pe lc de gl L tm ch od (tN y) (by omega) (by omega) hlc (by omega)) vX11_279 [0, 1, 2, 3, 7, 4] [5, 6] rfl rfl rfl rfl rfl rfl hl.1 rfl (Nat.le_of_ble_eq_true rfl) ⟨Nat.le_of_ble_eq_true rfl, Nat.le_of_ble_eq_true rfl⟩ ⟨Nat.le_of_ble_eq_true rfl, Nat.le_of_ble_eq_true rfl⟩ dX11_tree_43 (fun r13 u9 H locs hq hW => ?_)
        obtain ⟨rfl, rfl⟩ := hq
        have hW : WD g A s _ _ [(h0, .inr (11, [.ref a0, .ref a1, .ref a2, .ref a3, .ref a4, .ref a5, .ref a6, .ref a7, .ref a8, .ref a9, .ref a10, .int (nI nv), .int (nI np), .int cc])), (a1, .inl (g.2.1 4, 10, .inr (.inr (.inr (.inr fA))))), (a8, .inr (0, [gv, .int kn, .int on, .ref yc, .ref yt, .ref yh, .ref yo])), (yt, .inl (g.2.1 1, 7, .inl ((F_X0_growTree pe lc L tm ch od (tN y)).2.1))), (yh, .inl (g.2.1 1, 7, .inl ((F_X0_growTree pe lc L tm ch od (tN y)).2.2.1))), (yo, .inl (g.2.1 1, 7, .inl ((F_X0_growTree pe lc L tm ch od (tN y)).2.2.2))), (v, .inr (10, [.int (nI pe), .int (nI lc), .int de, .ref v3, .ref v4, .ref v5, .ref v6, .ref v7, .ref v8, .ref v9, .ref v10, .ref v11, .ref v12, .ref v13, .int gl, .ref v15])), (v9, .inl (g.2.1 1, 72, .inl L))] := hW
        refine lv_if_ne (tgt := 51) (pc := 46) hx hb dX11_tree_46 rfl (fun c14 => ?_) (fun c14 => ?_)
        · refine lv_iload (pc := 51) hx hb dX11_tree_51 (lv_at hl 5 rfl) ?_
          refine lv_iconst (v := (-1)) (pc := 53) hx hb dX11_tree_53 (by decide) ?_
          refine lv_icmp_ne (tgt := 69) (pc := 54) hx hb dX11_tree_54 rfl (fun c16 => ?_) (fun c16 => ?_)
          · refine lv_aload_n (pc := 69) hx hb dX11_tree_69 rfl (lv_at hl 1 rfl) ?_
            refine r_get X hW 0 ciX11 8 rfl (by decide) m_361 rfl rfl dX11_tree_70 ?_
            refine lv_iload_n (pc := 73) hx hb dX11_tree_73 rfl (lv_at hl 4 rfl) ?_
            refine lv_iload (pc := 74) hx hb dX11_tree_74 (lv_at hl 5 rfl) ?_
            refine c_Vi (pc := 76) (As := [.int (nI (tN z)), .int t]) (rest := []) (wr := [(h0, .inr (11, [.ref a0, .ref a1, .ref a2, .ref a3, .ref a4, .ref a5, .ref a6, .ref a7, .ref a8, .ref a9, .ref a10, .int (nI nv), .int (nI np), .int cc])), (a1, .inl (g.2.1 4, 10, .inr (.inr (.inr (.inr fA))))), (yo, .inl (g.2.1 1, 7, .inl ((F_X0_growTree pe lc L tm ch od (tN y)).2.2.2))), (v, .inr (10, [.int (nI pe), .int (nI lc), .int de, .ref v3, .ref v4, .ref v5, .ref v6, .ref v7, .ref v8, .ref v9, .ref v10, .ref v11, .ref v12, .ref v13, .int gl, .ref v15])), (v9, .inl (g.2.1 1, 72, .inl L))]) X hW 2 ciX0 rfl (K_X0_below l g gv a8 yc yt yh yo kn on ((F_X0_growTree pe lc L tm ch od (tN y)).2.1) ((F_X0_growTree pe lc L tm ch od (tN y)).2.2.1) (tN z) t (by omega)) vX11_285 [2, 3, 4] [0, 1, 5, 6, 7] rfl rfl rfl rfl rfl rfl hl.1 rfl (Nat.le_of_ble_eq_true rfl) ⟨Nat.le_of_ble_eq_true rfl, Nat.le_of_ble_eq_true rfl⟩ ⟨Nat.le_of_ble_eq_true rfl, Nat.le_of_ble_eq_true rfl⟩ dX11_tree_76 (fun r18 u9 H locs hq hW => ?_)
            obtain ⟨rfl, rfl⟩ := hq
            have hW : WD g A s _ _ [(h0, .inr (11, [.ref a0, .ref a1, .ref a2, .ref a3, .ref a4, .ref a5, .ref a6, .ref a7, .ref a8, .ref a9, .ref a10, .int (nI nv), .int (nI np), .int cc])), (a1, .inl (g.2.1 4, 10, .inr (.inr (.inr (.inr fA))))), (yo, .inl (g.2.1 1, 7, .inl ((F_X0_growTree pe lc L tm ch od (tN y)).2.2.2))), (v, .inr (10, [.int (nI pe), .int (nI lc), .int de, .ref v3, .ref v4, .ref v5, .ref v6, .ref v7, .ref v8, .ref v9, .ref v10, .ref v11, .ref v12, .ref v13, .int gl, .ref v15])), (v9, .inl (g.2.1 1, 72, .inl L)), (a8, .inr (0, [gv, .int kn, .int on, .ref yc, .ref yt, .ref yh, .ref yo])), (yt, .inl (g.2.1 1, 7, .inl ((F_X0_growTree pe lc L tm ch od (tN y)).2.1))), (yh, .inl (g.2.1 1, 7, .inl ((F_X0_growTree pe lc L tm ch od (tN y)).2.2.1)))] := hW
            have hF : F_X11_tree1 pe lc L tm ch od y z t = ((F_X0_below ((F_X0_growTree pe lc L tm ch od (tN y)).2.1) ((F_X0_growTree pe lc L tm ch od (tN y)).2.2.1) (tN z) t), ((F_X0_growTree pe lc L tm ch od (tN y)).2.1), ((F_X0_growTree pe lc L tm ch od (tN y)).2.2.1), ((F_X0_growTree pe lc L tm ch od (tN y)).2.2.2)) := show F_X11_tree1 pe lc L tm ch od y z t = ((F_X0_below ((F_X0_growTree pe lc L tm ch od (tN y)).2.1) ((F_X0_growTree pe lc L tm ch od (tN y)).2.2.1) (tN z) t), ((F_X0_growTree pe lc L tm ch od (tN y)).2.1), ((F_X0_growTree pe lc L tm ch od (tN y)).2.2.1), ((F_X0_growTree pe lc L tm ch od (tN y)).2.2.2)) from by rw [F_X11_tree1, if_neg c3, if_neg c7, if_neg c10, if_neg c14, if_neg c16]
            exact e_i (u := [(h0, .inr (11, [.ref a0, .ref a1, .ref a2, .ref a3, .ref a4, .ref a5, .ref a6, .ref a7, .ref a8, .ref a9, .ref a10, .int (nI nv), .int (nI np), .int cc])), (a1, .inl (g.2.1 4, 10, .inr (.inr (.inr (.inr fA))))), (a8, .inr (0, [gv, .int kn, .int on, .ref yc, .ref yt, .ref yh, .ref yo])), (yt, .inl (g.2.1 1, 7, .inl ((F_X0_growTree pe lc L tm ch od (tN y)).2.1))), (yh, .inl (g.2.1 1, 7, .inl ((F_X0_growTree pe lc L tm ch od (tN y)).2.2.1))), (yo, .inl (g.2.1 1, 7, .inl ((F_X0_growTree pe lc L tm ch od (tN y)).2.2.2))), (v, .inr (10, [.int (nI pe), .int (nI lc), .int de, .ref v3, .ref v4, .ref v5, .ref v6, .ref v7, .ref v8, .ref v9, .ref v10, .ref v11, .ref v12, .ref v13, .int gl, .ref v15])), (v9, .inl (g.2.1 1, 72, .inl L))]) X hQ hr (hW) [0, 1, 5, 6, 7, 2, 3, 4] rfl rfl (⟨(congrArg Prod.fst hF).symm, by rw [hF]⟩) ⟨Nat.le_of_ble_eq_true rfl, Nat.le_of_ble_eq_true rfl⟩ dX11_tree_79
          · refine lv_aload_n (pc := 57) hx hb dX11_tree_57 rfl (lv_at hl 1 rfl) ?_
            refine r_get X hW 0 ciX11 8 rfl (by decide) m_361 rfl rfl dX11_tree_58 ?_
            refine r_getN X hW 2 ciX0 4 rfl (by decide) m_235 rfl rfl dX11_tree_61 ?_
            refine lv_iload_n (pc := 64) hx hb dX11_tree_64 rfl (lv_at hl 4 rfl) ?_
            refine r_iald X hW 3 rfl (vp_in_nI (by omega) (by decide)) dX11_tree_65 ?_
            refine lv_topi (fun v20 ev20 => ?_)
            obtain rfl : v20 = ((F_X0_growTree pe lc L tm ch od (tN y)).2.1) (tN z) := ev20.trans (by rw [nI_clamp (by omega)])
            refine lv_goto (tgt := 79) (pc := 66) hx hb dX11_tree_66 rfl ?_
            have hF : F_X11_tree1 pe lc L tm ch od y z t = (((F_X0_growTree pe lc L tm ch od (tN y)).2.1) (tN z), ((F_X0_growTree pe lc L tm ch od (tN y)).2.1), ((F_X0_growTree pe lc L tm ch od (tN y)).2.2.1), ((F_X0_growTree pe lc L tm ch od (tN y)).2.2.2)) := show F_X11_tree1 pe lc L tm ch od y z t = (((F_X0_growTree pe lc L tm ch od (tN y)).2.1) (tN z), ((F_X0_growTree pe lc L tm ch od (tN y)).2.1), ((F_X0_growTree pe lc L tm ch od (tN y)).2.2.1), ((F_X0_growTree pe lc L tm ch od (tN y)).2.2.2)) from by rw [F_X11_tree1, if_neg c3, if_neg c7, if_neg c10, if_neg c14, if_pos c16]
            exact e_i (u := [(h0, .inr (11, [.ref a0, .ref a1, .ref a2, .ref a3, .ref a4, .ref a5, .ref a6, .ref a7, .ref a8, .ref a9, .ref a10, .int (nI nv), .int (nI np), .int cc])), (a1, .inl (g.2.1 4, 10, .inr (.inr (.inr (.inr fA))))), (a8, .inr (0, [gv, .int kn, .int on, .ref yc, .ref yt, .ref yh, .ref yo])), (yt, .inl (g.2.1 1, 7, .inl ((F_X0_growTree pe lc L tm ch od (tN y)).2.1))), (yh, .inl (g.2.1 1, 7, .inl ((F_X0_growTree pe lc L tm ch od (tN y)).2.2.1))), (yo, .inl (g.2.1 1, 7, .inl ((F_X0_growTree pe lc L tm ch od (tN y)).2.2.2))), (v, .inr (10, [.int (nI pe), .int (nI lc), .int de, .ref v3, .ref v4, .ref v5, .ref v6, .ref v7, .ref v8, .ref v9, .ref v10, .ref v11, .ref v12, .ref v13, .int gl, .ref v15])), (v9, .inl (g.2.1 1, 72, .inl L))]) X hQ hr (hW) [0, 1, 2, 3, 4, 5, 6, 7] rfl rfl (⟨(congrArg Prod.fst hF).symm, by rw [hF]⟩) ⟨Nat.le_of_ble_eq_true rfl, Nat.le_of_ble_eq_true rfl⟩ dX11_tree_79
        · refine lv_iconst (v := (-1)) (pc := 49) hx hb dX11_tree_49 (by decide) ?_
          have hF : F_X11_tree1 pe lc L tm ch od y z t = ((-1 : Int32), ((F_X0_growTree pe lc L tm ch od (tN y)).2.1), ((F_X0_growTree pe lc L tm ch od (tN y)).2.2.1), ((F_X0_growTree pe lc L tm ch od (tN y)).2.2.2)) := show F_X11_tree1 pe lc L tm ch od y z t = ((-1 : Int32), ((F_X0_growTree pe lc L tm ch od (tN y)).2.1), ((F_X0_growTree pe lc L tm ch od (tN y)).2.2.1), ((F_X0_growTree pe lc L tm ch od (tN y)).2.2.2)) from by rw [F_X11_tree1, if_neg c3, if_neg c7, if_neg c10, if_pos c14]
          exact e_i (u := [(h0, .inr (11, [.ref a0, .ref a1, .ref a2, .ref a3, .ref a4, .ref a5, .ref a6, .ref a7, .ref a8, .ref a9, .ref a10, .int (nI nv), .int (nI np), .int cc])), (a1, .inl (g.2.1 4, 10, .inr (.inr (.inr (.inr fA))))), (a8, .inr (0, [gv, .int kn, .int on, .ref yc, .ref yt, .ref yh, .ref yo])), (yt, .inl (g.2.1 1, 7, .inl ((F_X0_growTree pe lc L tm ch od (tN y)).2.1))), (yh, .inl (g.2.1 1, 7, .inl ((F_X0_growTree pe lc L tm ch od (tN y)).2.2.1))), (yo, .inl (g.2.1 1, 7, .inl ((F_X0_growTree pe lc L tm ch od (tN y)).2.2.2))), (v, .inr (10, [.int (nI pe), .int (nI lc), .int de, .ref v3, .ref v4, .ref v5, .ref v6, .ref v7, .ref v8, .ref v9, .ref v10, .ref v11, .ref v12, .ref v13, .int gl, .ref v15])), (v9, .inl (g.2.1 1, 72, .inl L))]) X hQ hr (hW) [0, 1, 2, 3, 4, 5, 6, 7] rfl rfl (⟨(congrArg Prod.fst hF).symm, by rw [hF]⟩) ⟨Nat.le_of_ble_eq_true rfl, Nat.le_of_ble_eq_true rfl⟩ dX11_tree_50

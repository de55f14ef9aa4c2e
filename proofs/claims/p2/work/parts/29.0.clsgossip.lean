theorem hz01 {x : Int32} (h : x = 0 ∨ x = 1) : narrow .boolean (.int x) = .int x := by rcases h with rfl | rfl <;> rfl
theorem m_903 : (Cond.code yX3_lowerEnd prog_5_method_2_code 1 (Option.some FieldType.int)) ∈ BW := bw (tb4 183 (by decide +kernel)) (by decide +kernel)
theorem dX3_lowerEnd_0 : decode cX3_lowerEnd 0 = .ok (.iload_n 0, 1) := by decide +kernel
theorem dX3_lowerEnd_1 : decode cX3_lowerEnd 1 = .ok (.iconst 4, 1) := by decide +kernel
theorem dX3_lowerEnd_2 : decode cX3_lowerEnd 2 = .ok (.if_icmp .ge 13, 3) := by decide +kernel
theorem dX3_lowerEnd_15 : decode cX3_lowerEnd 15 = .ok (.iconst 2, 1) := by decide +kernel
theorem dX3_lowerEnd_16 : decode cX3_lowerEnd 16 = .ok (.iload_n 0, 1) := by decide +kernel
theorem dX3_lowerEnd_17 : decode cX3_lowerEnd 17 = .ok (.imul, 1) := by decide +kernel
theorem dX3_lowerEnd_18 : decode cX3_lowerEnd 18 = .ok (.iconst 4, 1) := by decide +kernel
theorem dX3_lowerEnd_19 : decode cX3_lowerEnd 19 = .ok (.isub, 1) := by decide +kernel
theorem dX3_lowerEnd_20 : decode cX3_lowerEnd 20 = .ok (.ireturn, 1) := by decide +kernel
theorem dX3_lowerEnd_5 : decode cX3_lowerEnd 5 = .ok (.iload_n 0, 1) := by decide +kernel
theorem dX3_lowerEnd_6 : decode cX3_lowerEnd 6 = .ok (.iload_n 0, 1) := by decide +kernel
theorem dX3_lowerEnd_7 : decode cX3_lowerEnd 7 = .ok (.iconst 1, 1) := by decide +kernel
theorem dX3_lowerEnd_8 : decode cX3_lowerEnd 8 = .ok (.isub, 1) := by decide +kernel
theorem dX3_lowerEnd_9 : decode cX3_lowerEnd 9 = .ok (.imul, 1) := by decide +kernel
theorem dX3_lowerEnd_10 : decode cX3_lowerEnd 10 = .ok (.iconst 2, 1) := by decide +kernel
theorem dX3_lowerEnd_11 : decode cX3_lowerEnd 11 = .ok (.idiv, 1) := by decide +kernel
theorem dX3_lowerEnd_12 : decode cX3_lowerEnd 12 = .ok (.goto 8, 3) := by decide +kernel
theorem m_906 : (Cond.code yX3_upperEnd prog_5_method_3_code 1 (Option.some FieldType.int)) ∈ BW := bw (tb4 186 (by decide +kernel)) (by decide +kernel)
theorem dX3_upperEnd_0 : decode cX3_upperEnd 0 = .ok (.iload_n 0, 1) := by decide +kernel
theorem dX3_upperEnd_1 : decode cX3_upperEnd 1 = .ok (.iconst 4, 1) := by decide +kernel
theorem dX3_upperEnd_2 : decode cX3_upperEnd 2 = .ok (.if_icmp .ge 13, 3) := by decide +kernel
theorem dX3_upperEnd_15 : decode cX3_upperEnd 15 = .ok (.iconst 2, 1) := by decide +kernel
theorem dX3_upperEnd_16 : decode cX3_upperEnd 16 = .ok (.iload_n 0, 1) := by decide +kernel
theorem dX3_upperEnd_17 : decode cX3_upperEnd 17 = .ok (.imul, 1) := by decide +kernel
theorem dX3_upperEnd_18 : decode cX3_upperEnd 18 = .ok (.iconst 3, 1) := by decide +kernel
theorem dX3_upperEnd_19 : decode cX3_upperEnd 19 = .ok (.isub, 1) := by decide +kernel
theorem dX3_upperEnd_20 : decode cX3_upperEnd 20 = .ok (.ireturn, 1) := by decide +kernel
theorem dX3_upperEnd_5 : decode cX3_upperEnd 5 = .ok (.iload_n 0, 1) := by decide +kernel
theorem dX3_upperEnd_6 : decode cX3_upperEnd 6 = .ok (.iload_n 0, 1) := by decide +kernel
theorem dX3_upperEnd_7 : decode cX3_upperEnd 7 = .ok (.iconst 1, 1) := by decide +kernel
theorem dX3_upperEnd_8 : decode cX3_upperEnd 8 = .ok (.isub, 1) := by decide +kernel
theorem dX3_upperEnd_9 : decode cX3_upperEnd 9 = .ok (.imul, 1) := by decide +kernel
theorem dX3_upperEnd_10 : decode cX3_upperEnd 10 = .ok (.iconst 2, 1) := by decide +kernel
theorem dX3_upperEnd_11 : decode cX3_upperEnd 11 = .ok (.idiv, 1) := by decide +kernel
theorem dX3_upperEnd_12 : decode cX3_upperEnd 12 = .ok (.goto 8, 3) := by decide +kernel
theorem m_914 : (Cond.code yX3_canEnd prog_5_method_7_code 6 (Option.some FieldType.boolean)) ∈ BW := bw (tb4 194 (by decide +kernel)) (by decide +kernel)
theorem dX3_canEnd_0 : decode cX3_canEnd 0 = .ok (.iconst 0, 1) := by decide +kernel
theorem dX3_canEnd_1 : decode cX3_canEnd 1 = .ok (.istore_n 2, 1) := by decide +kernel
theorem dX3_canEnd_2 : decode cX3_canEnd 2 = .ok (.iconst 0, 1) := by decide +kernel
theorem dX3_canEnd_3 : decode cX3_canEnd 3 = .ok (.istore_n 3, 1) := by decide +kernel
theorem dX3_canEnd_4 : decode cX3_canEnd 4 = .ok (.iload_n 3, 1) := by decide +kernel
theorem dX3_canEnd_5 : decode cX3_canEnd 5 = .ok (.aload_n 0, 1) := by decide +kernel
theorem m_196 : (Cond.fieldLink "NoonValley$Gossip" 32 "NoonValley$Gossip" "valley" "LNoonValley$Valley;") ∈ BW := bw (tb1 196 (by decide +kernel)) (by decide +kernel)
theorem dX3_canEnd_6 : decode cX3_canEnd 6 = .ok (.getfield 32, 3) := by decide +kernel
theorem m_274 : (Cond.fieldLinkNest "NoonValley$Gossip" 25 "NoonValley$Valley" "people" "I" "NoonValley") ∈ NWS := nw (tb2 34 (by decide +kernel)) (by decide +kernel)
theorem dX3_canEnd_9 : decode cX3_canEnd 9 = .ok (.getfield 25, 3) := by decide +kernel
theorem dX3_canEnd_12 : decode cX3_canEnd 12 = .ok (.if_icmp .ge 74, 3) := by decide +kernel
theorem dX3_canEnd_86 : decode cX3_canEnd 86 = .ok (.iload_n 2, 1) := by decide +kernel
theorem dX3_canEnd_87 : decode cX3_canEnd 87 = .ok (.iconst 2, 1) := by decide +kernel
theorem dX3_canEnd_88 : decode cX3_canEnd 88 = .ok (.iload_n 1, 1) := by decide +kernel
theorem dX3_canEnd_89 : decode cX3_canEnd 89 = .ok (.imul, 1) := by decide +kernel
theorem dX3_canEnd_90 : decode cX3_canEnd 90 = .ok (.if_icmp .gt 7, 3) := by decide +kernel
theorem dX3_canEnd_97 : decode cX3_canEnd 97 = .ok (.iconst 0, 1) := by decide +kernel
theorem dX3_canEnd_98 : decode cX3_canEnd 98 = .ok (.ireturn, 1) := by decide +kernel
theorem dX3_canEnd_93 : decode cX3_canEnd 93 = .ok (.iconst 1, 1) := by decide +kernel
theorem dX3_canEnd_94 : decode cX3_canEnd 94 = .ok (.goto 4, 3) := by decide +kernel
theorem dX3_canEnd_15 : decode cX3_canEnd 15 = .ok (.aload_n 0, 1) := by decide +kernel
theorem dX3_canEnd_16 : decode cX3_canEnd 16 = .ok (.getfield 11, 3) := by decide +kernel
theorem dX3_canEnd_19 : decode cX3_canEnd 19 = .ok (.iload_n 3, 1) := by decide +kernel
theorem dX3_canEnd_20 : decode cX3_canEnd 20 = .ok (.iaload, 1) := by decide +kernel
theorem dX3_canEnd_21 : decode cX3_canEnd 21 = .ok (.aload_n 0, 1) := by decide +kernel
theorem m_197 : (Cond.fieldLink "NoonValley$Gossip" 40 "NoonValley$Gossip" "all" "I") ∈ BW := bw (tb1 197 (by decide +kernel)) (by decide +kernel)
theorem dX3_canEnd_22 : decode cX3_canEnd 22 = .ok (.getfield 40, 3) := by decide +kernel
theorem dX3_canEnd_25 : decode cX3_canEnd 25 = .ok (.if_icmp .eq 6, 3) := by decide +kernel
theorem dX3_canEnd_31 : decode cX3_canEnd 31 = .ok (.iconst 0, 1) := by decide +kernel
theorem dX3_canEnd_32 : decode cX3_canEnd 32 = .ok (.istore 4, 2) := by decide +kernel
theorem dX3_canEnd_34 : decode cX3_canEnd 34 = .ok (.iconst 0, 1) := by decide +kernel
theorem dX3_canEnd_35 : decode cX3_canEnd 35 = .ok (.istore 5, 2) := by decide +kernel
theorem dX3_canEnd_37 : decode cX3_canEnd 37 = .ok (.iload 5, 2) := by decide +kernel
theorem dX3_canEnd_39 : decode cX3_canEnd 39 = .ok (.aload_n 0, 1) := by decide +kernel
theorem dX3_canEnd_40 : decode cX3_canEnd 40 = .ok (.getfield 32, 3) := by decide +kernel
theorem dX3_canEnd_43 : decode cX3_canEnd 43 = .ok (.getfield 25, 3) := by decide +kernel
theorem dX3_canEnd_46 : decode cX3_canEnd 46 = .ok (.if_icmp .ge 26, 3) := by decide +kernel
theorem dX3_canEnd_72 : decode cX3_canEnd 72 = .ok (.iload 4, 2) := by decide +kernel
theorem dX3_canEnd_74 : decode cX3_canEnd 74 = .ok (.iload_n 1, 1) := by decide +kernel
theorem dX3_canEnd_75 : decode cX3_canEnd 75 = .ok (.if_icmp .le 5, 3) := by decide +kernel
theorem dX3_canEnd_80 : decode cX3_canEnd 80 = .ok (.iinc 3 1, 3) := by decide +kernel
theorem dX3_canEnd_83 : decode cX3_canEnd 83 = .ok (.goto (-79), 3) := by decide +kernel
theorem dX3_canEnd_78 : decode cX3_canEnd 78 = .ok (.iconst 0, 1) := by decide +kernel
theorem dX3_canEnd_79 : decode cX3_canEnd 79 = .ok (.ireturn, 1) := by decide +kernel
theorem dX3_canEnd_49 : decode cX3_canEnd 49 = .ok (.aload_n 0, 1) := by decide +kernel
theorem dX3_canEnd_50 : decode cX3_canEnd 50 = .ok (.getfield 11, 3) := by decide +kernel
theorem dX3_canEnd_53 : decode cX3_canEnd 53 = .ok (.iload 5, 2) := by decide +kernel
theorem dX3_canEnd_55 : decode cX3_canEnd 55 = .ok (.iaload, 1) := by decide +kernel
theorem dX3_canEnd_56 : decode cX3_canEnd 56 = .ok (.iload_n 3, 1) := by decide +kernel
theorem m_915 : (Cond.methodLinkNest "NoonValley$Gossip" 73 yX11_has "NoonValley") ∈ NWS := nw (tb4 195 (by decide +kernel)) (by decide +kernel)
theorem vX3_73 : LSN RX3 73 "NoonValley" yX11_has cX11_has 2 (some .boolean) 2 := ⟨m_915, m_487, m_1, m_488, by decide, by decide, by decide +kernel⟩
theorem dX3_canEnd_57 : decode cX3_canEnd 57 = .ok (.invokestatic 73, 3) := by decide +kernel
theorem dX3_canEnd_60 : decode cX3_canEnd 60 = .ok (.ifCond .ne 6, 3) := by decide +kernel
theorem dX3_canEnd_66 : decode cX3_canEnd 66 = .ok (.iinc 5 1, 3) := by decide +kernel
theorem dX3_canEnd_69 : decode cX3_canEnd 69 = .ok (.goto (-32), 3) := by decide +kernel
theorem dX3_canEnd_63 : decode cX3_canEnd 63 = .ok (.iinc 4 1, 3) := by decide +kernel
theorem dX3_canEnd_28 : decode cX3_canEnd 28 = .ok (.iinc 2 1, 3) := by decide +kernel
theorem m_910 : (Cond.code yX3_goOn prog_5_method_6_code 8 (Option.some FieldType.boolean)) ∈ BW := bw (tb4 190 (by decide +kernel)) (by decide +kernel)
theorem dX3_goOn_0 : decode cX3_goOn 0 = .ok (.aload_n 0, 1) := by decide +kernel
theorem dX3_goOn_1 : decode cX3_goOn 1 = .ok (.iload_n 2, 1) := by decide +kernel
theorem dX3_goOn_2 : decode cX3_goOn 2 = .ok (.iload_n 1, 1) := by decide +kernel
theorem dX3_goOn_3 : decode cX3_goOn 3 = .ok (.isub, 1) := by decide +kernel
theorem m_911 : (Cond.methodLink "NoonValley$Gossip" 54 yX3_canEnd) ∈ BW := bw (tb4 191 (by decide +kernel)) (by decide +kernel)
theorem m_913 : (Cond.instanceMethod yX3_canEnd) ∈ BW := bw (tb4 193 (by decide +kernel)) (by decide +kernel)
theorem s_3_7 : (Cond.selects RX3 yX3_canEnd yX3_canEnd) ∈ BW := bw (sl3 (y := yX3_canEnd) (n := 3) 7 (by decide +kernel)) (by decide +kernel)
theorem vX3_54 : LV RX3 54 RX3 yX3_canEnd cX3_canEnd 6 (some .boolean) 1 := ⟨m_911, m_913, s_3_7, m_7, m_914, rfl, by decide, by decide, by decide +kernel⟩
theorem dX3_goOn_4 : decode cX3_goOn 4 = .ok (.invokevirtual 54, 3) := by decide +kernel
theorem dX3_goOn_7 : decode cX3_goOn 7 = .ok (.ifCond .ne 5, 3) := by decide +kernel
theorem dX3_goOn_12 : decode cX3_goOn 12 = .ok (.iload_n 1, 1) := by decide +kernel
theorem dX3_goOn_13 : decode cX3_goOn 13 = .ok (.iload_n 2, 1) := by decide +kernel
theorem dX3_goOn_14 : decode cX3_goOn 14 = .ok (.if_icmp .ge 9, 3) := by decide +kernel
theorem dX3_goOn_23 : decode cX3_goOn 23 = .ok (.iconst 1, 1) := by decide +kernel
theorem dX3_goOn_24 : decode cX3_goOn 24 = .ok (.ireturn, 1) := by decide +kernel
theorem dX3_goOn_17 : decode cX3_goOn 17 = .ok (.iload_n 1, 1) := by decide +kernel
theorem dX3_goOn_18 : decode cX3_goOn 18 = .ok (.bipush 7, 2) := by decide +kernel
theorem dX3_goOn_20 : decode cX3_goOn 20 = .ok (.if_icmp .lt 5, 3) := by decide +kernel
theorem dX3_goOn_10 : decode cX3_goOn 10 = .ok (.iconst 0, 1) := by decide +kernel
theorem dX3_goOn_11 : decode cX3_goOn 11 = .ok (.ireturn, 1) := by decide +kernel
theorem dX3_goOn_25 : decode cX3_goOn 25 = .ok (.iconst 0, 1) := by decide +kernel
theorem dX3_goOn_26 : decode cX3_goOn 26 = .ok (.istore_n 3, 1) := by decide +kernel
theorem dX3_goOn_27 : decode cX3_goOn 27 = .ok (.iload_n 3, 1) := by decide +kernel
theorem dX3_goOn_28 : decode cX3_goOn 28 = .ok (.aload_n 0, 1) := by decide +kernel
theorem dX3_goOn_29 : decode cX3_goOn 29 = .ok (.getfield 32, 3) := by decide +kernel
theorem m_283 : (Cond.fieldLinkNest "NoonValley$Gossip" 58 "NoonValley$Valley" "lineCount" "I" "NoonValley") ∈ NWS := nw (tb2 43 (by decide +kernel)) (by decide +kernel)
theorem dX3_goOn_32 : decode cX3_goOn 32 = .ok (.getfield 58, 3) := by decide +kernel
theorem dX3_goOn_35 : decode cX3_goOn 35 = .ok (.if_icmp .ge 133, 3) := by decide +kernel
theorem dX3_goOn_168 : decode cX3_goOn 168 = .ok (.iconst 0, 1) := by decide +kernel
theorem dX3_goOn_169 : decode cX3_goOn 169 = .ok (.ireturn, 1) := by decide +kernel
theorem dX3_goOn_38 : decode cX3_goOn 38 = .ok (.aload_n 0, 1) := by decide +kernel
theorem dX3_goOn_39 : decode cX3_goOn 39 = .ok (.getfield 32, 3) := by decide +kernel
theorem dX3_goOn_42 : decode cX3_goOn 42 = .ok (.iload_n 3, 1) := by decide +kernel
theorem m_916 : (Cond.methodLink "NoonValley$Gossip" 61 yX10_lineA) ∈ BW := bw (tb4 196 (by decide +kernel)) (by decide +kernel)
theorem vX3_61 : LV RX3 61 RX10 yX10_lineA cX10_lineA 2 (some .int) 1 := ⟨m_916, m_494, m_495, m_11, m_496, rfl, by decide, by decide, by decide +kernel⟩
theorem dX3_goOn_43 : decode cX3_goOn 43 = .ok (.invokevirtual 61, 3) := by decide +kernel
theorem dX3_goOn_46 : decode cX3_goOn 46 = .ok (.istore 4, 2) := by decide +kernel
theorem dX3_goOn_48 : decode cX3_goOn 48 = .ok (.aload_n 0, 1) := by decide +kernel
theorem dX3_goOn_49 : decode cX3_goOn 49 = .ok (.getfield 32, 3) := by decide +kernel
theorem dX3_goOn_52 : decode cX3_goOn 52 = .ok (.iload_n 3, 1) := by decide +kernel
theorem m_917 : (Cond.methodLink "NoonValley$Gossip" 64 yX10_lineB) ∈ BW := bw (tb4 197 (by decide +kernel)) (by decide +kernel)
theorem vX3_64 : LV RX3 64 RX10 yX10_lineB cX10_lineB 2 (some .int) 1 := ⟨m_917, m_502, m_503, m_11, m_504, rfl, by decide, by decide, by decide +kernel⟩
theorem dX3_goOn_53 : decode cX3_goOn 53 = .ok (.invokevirtual 64, 3) := by decide +kernel
theorem dX3_goOn_56 : decode cX3_goOn 56 = .ok (.istore 5, 2) := by decide +kernel
theorem dX3_goOn_58 : decode cX3_goOn 58 = .ok (.aload_n 0, 1) := by decide +kernel
theorem dX3_goOn_59 : decode cX3_goOn 59 = .ok (.getfield 11, 3) := by decide +kernel
theorem dX3_goOn_62 : decode cX3_goOn 62 = .ok (.iload 4, 2) := by decide +kernel
theorem dX3_goOn_64 : decode cX3_goOn 64 = .ok (.iaload, 1) := by decide +kernel
theorem dX3_goOn_65 : decode cX3_goOn 65 = .ok (.istore 6, 2) := by decide +kernel
theorem dX3_goOn_67 : decode cX3_goOn 67 = .ok (.aload_n 0, 1) := by decide +kernel
theorem dX3_goOn_68 : decode cX3_goOn 68 = .ok (.getfield 11, 3) := by decide +kernel
theorem dX3_goOn_71 : decode cX3_goOn 71 = .ok (.iload 5, 2) := by decide +kernel
theorem dX3_goOn_73 : decode cX3_goOn 73 = .ok (.iaload, 1) := by decide +kernel
theorem dX3_goOn_74 : decode cX3_goOn 74 = .ok (.istore 7, 2) := by decide +kernel
theorem dX3_goOn_76 : decode cX3_goOn 76 = .ok (.aload_n 0, 1) := by decide +kernel
theorem dX3_goOn_77 : decode cX3_goOn 77 = .ok (.getfield 32, 3) := by decide +kernel
theorem dX3_goOn_80 : decode cX3_goOn 80 = .ok (.iload_n 3, 1) := by decide +kernel
theorem m_918 : (Cond.methodLink "NoonValley$Gossip" 67 yX10_isOneWay) ∈ BW := bw (tb4 198 (by decide +kernel)) (by decide +kernel)
theorem vX3_67 : LV RX3 67 RX10 yX10_isOneWay cX10_isOneWay 2 (some .boolean) 1 := ⟨m_918, m_514, m_515, m_11, m_516, rfl, by decide, by decide, by decide +kernel⟩
theorem dX3_goOn_81 : decode cX3_goOn 81 = .ok (.invokevirtual 67, 3) := by decide +kernel
theorem dX3_goOn_84 : decode cX3_goOn 84 = .ok (.ifCond .ne 78, 3) := by decide +kernel
theorem dX3_goOn_162 : decode cX3_goOn 162 = .ok (.iinc 3 1, 3) := by decide +kernel
theorem dX3_goOn_165 : decode cX3_goOn 165 = .ok (.goto (-138), 3) := by decide +kernel
theorem dX3_goOn_87 : decode cX3_goOn 87 = .ok (.iload 6, 2) := by decide +kernel
theorem dX3_goOn_89 : decode cX3_goOn 89 = .ok (.iload 7, 2) := by decide +kernel
theorem dX3_goOn_91 : decode cX3_goOn 91 = .ok (.if_icmp .ne 6, 3) := by decide +kernel
theorem dX3_goOn_97 : decode cX3_goOn 97 = .ok (.aload_n 0, 1) := by decide +kernel
theorem dX3_goOn_98 : decode cX3_goOn 98 = .ok (.getfield 11, 3) := by decide +kernel
theorem dX3_goOn_101 : decode cX3_goOn 101 = .ok (.iload 4, 2) := by decide +kernel
theorem dX3_goOn_103 : decode cX3_goOn 103 = .ok (.iload 6, 2) := by decide +kernel
theorem dX3_goOn_105 : decode cX3_goOn 105 = .ok (.iload 7, 2) := by decide +kernel
theorem dX3_goOn_107 : decode cX3_goOn 107 = .ok (.ior, 1) := by decide +kernel
theorem dX3_goOn_108 : decode cX3_goOn 108 = .ok (.iastore, 1) := by decide +kernel
theorem dX3_goOn_109 : decode cX3_goOn 109 = .ok (.aload_n 0, 1) := by decide +kernel
theorem dX3_goOn_110 : decode cX3_goOn 110 = .ok (.getfield 11, 3) := by decide +kernel
theorem dX3_goOn_113 : decode cX3_goOn 113 = .ok (.iload 5, 2) := by decide +kernel
theorem dX3_goOn_115 : decode cX3_goOn 115 = .ok (.iload 6, 2) := by decide +kernel
theorem dX3_goOn_117 : decode cX3_goOn 117 = .ok (.iload 7, 2) := by decide +kernel
theorem dX3_goOn_119 : decode cX3_goOn 119 = .ok (.ior, 1) := by decide +kernel
theorem dX3_goOn_120 : decode cX3_goOn 120 = .ok (.iastore, 1) := by decide +kernel
theorem dX3_goOn_121 : decode cX3_goOn 121 = .ok (.aload_n 0, 1) := by decide +kernel
theorem dX3_goOn_122 : decode cX3_goOn 122 = .ok (.getfield 32, 3) := by decide +kernel
theorem m_318 : (Cond.fieldLinkNest "NoonValley$Gossip" 70 "NoonValley$Valley" "gossipLines" "[I" "NoonValley") ∈ NWS := nw (tb2 78 (by decide +kernel)) (by decide +kernel)
theorem dX3_goOn_125 : decode cX3_goOn 125 = .ok (.getfield 70, 3) := by decide +kernel
theorem dX3_goOn_128 : decode cX3_goOn 128 = .ok (.iload_n 1, 1) := by decide +kernel
theorem dX3_goOn_129 : decode cX3_goOn 129 = .ok (.iload_n 3, 1) := by decide +kernel
theorem dX3_goOn_130 : decode cX3_goOn 130 = .ok (.iastore, 1) := by decide +kernel
theorem dX3_goOn_131 : decode cX3_goOn 131 = .ok (.aload_n 0, 1) := by decide +kernel
theorem dX3_goOn_132 : decode cX3_goOn 132 = .ok (.iload_n 1, 1) := by decide +kernel
theorem dX3_goOn_133 : decode cX3_goOn 133 = .ok (.iconst 1, 1) := by decide +kernel
theorem dX3_goOn_134 : decode cX3_goOn 134 = .ok (.iadd, 1) := by decide +kernel
theorem dX3_goOn_135 : decode cX3_goOn 135 = .ok (.iload_n 2, 1) := by decide +kernel
theorem m_907 : (Cond.methodLink "NoonValley$Gossip" 50 yX3_goOn) ∈ BW := bw (tb4 187 (by decide +kernel)) (by decide +kernel)
theorem m_909 : (Cond.instanceMethod yX3_goOn) ∈ BW := bw (tb4 189 (by decide +kernel)) (by decide +kernel)
theorem s_3_6 : (Cond.selects RX3 yX3_goOn yX3_goOn) ∈ BW := bw (sl3 (y := yX3_goOn) (n := 3) 6 (by decide +kernel)) (by decide +kernel)
theorem vX3_50 : LV RX3 50 RX3 yX3_goOn cX3_goOn 8 (some .boolean) 2 := ⟨m_907, m_909, s_3_6, m_7, m_910, rfl, by decide, by decide, by decide +kernel⟩
theorem dX3_goOn_136 : decode cX3_goOn 136 = .ok (.invokevirtual 50, 3) := by decide +kernel
theorem dX3_goOn_139 : decode cX3_goOn 139 = .ok (.ifCond .eq 5, 3) := by decide +kernel
theorem dX3_goOn_144 : decode cX3_goOn 144 = .ok (.aload_n 0, 1) := by decide +kernel
theorem dX3_goOn_145 : decode cX3_goOn 145 = .ok (.getfield 11, 3) := by decide +kernel
theorem dX3_goOn_148 : decode cX3_goOn 148 = .ok (.iload 4, 2) := by decide +kernel
theorem dX3_goOn_150 : decode cX3_goOn 150 = .ok (.iload 6, 2) := by decide +kernel
theorem dX3_goOn_152 : decode cX3_goOn 152 = .ok (.iastore, 1) := by decide +kernel
theorem dX3_goOn_153 : decode cX3_goOn 153 = .ok (.aload_n 0, 1) := by decide +kernel
theorem dX3_goOn_154 : decode cX3_goOn 154 = .ok (.getfield 11, 3) := by decide +kernel
theorem dX3_goOn_157 : decode cX3_goOn 157 = .ok (.iload 5, 2) := by decide +kernel
theorem dX3_goOn_159 : decode cX3_goOn 159 = .ok (.iload 7, 2) := by decide +kernel
theorem dX3_goOn_161 : decode cX3_goOn 161 = .ok (.iastore, 1) := by decide +kernel
theorem dX3_goOn_142 : decode cX3_goOn 142 = .ok (.iconst 1, 1) := by decide +kernel
theorem dX3_goOn_143 : decode cX3_goOn 143 = .ok (.ireturn, 1) := by decide +kernel
theorem dX3_goOn_94 : decode cX3_goOn 94 = .ok (.goto 68, 3) := by decide +kernel
theorem m_890 : (Cond.code yX3_search prog_5_method_5_code 4 (Option.some FieldType.int)) ∈ BW := bw (tb4 170 (by decide +kernel)) (by decide +kernel)
theorem dX3_search_0 : decode cX3_search 0 = .ok (.aload_n 1, 1) := by decide +kernel
theorem dX3_search_1 : decode cX3_search 1 = .ok (.getfield 25, 3) := by decide +kernel
theorem dX3_search_4 : decode cX3_search 4 = .ok (.iconst 5, 1) := by decide +kernel
theorem dX3_search_5 : decode cX3_search 5 = .ok (.if_icmp .gt 10, 3) := by decide +kernel
theorem dX3_search_15 : decode cX3_search 15 = .ok (.iconst (-1), 1) := by decide +kernel
theorem dX3_search_16 : decode cX3_search 16 = .ok (.ireturn, 1) := by decide +kernel
theorem dX3_search_8 : decode cX3_search 8 = .ok (.aload_n 1, 1) := by decide +kernel
theorem m_891 : (Cond.methodLink "NoonValley$Gossip" 28 yX10_holdsTogether) ∈ BW := bw (tb4 171 (by decide +kernel)) (by decide +kernel)
theorem m_892 : (Cond.instanceMethod yX10_holdsTogether) ∈ BW := bw (tb4 172 (by decide +kernel)) (by decide +kernel)
theorem m_893 : (Cond.selects "NoonValley$Valley" yX10_holdsTogether yX10_holdsTogether) ∈ BW := bw (tb4 173 (by decide +kernel)) (by decide +kernel)
theorem vX3_28 : LV RX3 28 RX10 yX10_holdsTogether cX10_holdsTogether 5 (some .boolean) 0 := ⟨m_891, m_892, m_893, m_11, m_894, rfl, by decide, by decide, by decide +kernel⟩
theorem dX3_search_9 : decode cX3_search 9 = .ok (.invokevirtual 28, 3) := by decide +kernel
theorem dX3_search_12 : decode cX3_search 12 = .ok (.ifCond .ne 5, 3) := by decide +kernel
theorem dX3_search_17 : decode cX3_search 17 = .ok (.aload_n 0, 1) := by decide +kernel
theorem dX3_search_18 : decode cX3_search 18 = .ok (.aload_n 1, 1) := by decide +kernel
theorem dX3_search_19 : decode cX3_search 19 = .ok (.putfield 32, 3) := by decide +kernel
theorem dX3_search_22 : decode cX3_search 22 = .ok (.aload_n 0, 1) := by decide +kernel
theorem dX3_search_23 : decode cX3_search 23 = .ok (.aload_n 1, 1) := by decide +kernel
theorem m_900 : (Cond.methodLink "NoonValley$Gossip" 36 yX10_everyone) ∈ BW := bw (tb4 180 (by decide +kernel)) (by decide +kernel)
theorem vX3_36 : LV RX3 36 RX10 yX10_everyone cX10_everyone 1 (some .int) 0 := ⟨m_900, m_675, m_676, m_11, m_677, rfl, by decide, by decide, by decide +kernel⟩
theorem dX3_search_24 : decode cX3_search 24 = .ok (.invokevirtual 36, 3) := by decide +kernel
theorem dX3_search_27 : decode cX3_search 27 = .ok (.putfield 40, 3) := by decide +kernel
theorem dX3_search_30 : decode cX3_search 30 = .ok (.aload_n 1, 1) := by decide +kernel
theorem dX3_search_31 : decode cX3_search 31 = .ok (.getfield 25, 3) := by decide +kernel
theorem m_901 : (Cond.methodLink "NoonValley$Gossip" 43 yX3_lowerEnd) ∈ BW := bw (tb4 181 (by decide +kernel)) (by decide +kernel)
theorem m_902 : (Cond.static yX3_lowerEnd) ∈ BW := bw (tb4 182 (by decide +kernel)) (by decide +kernel)
theorem vX3_43 : LST RX3 43 yX3_lowerEnd cX3_lowerEnd 1 (some .int) 1 := ⟨m_901, m_902, m_7, m_903, by decide, by decide, by decide +kernel⟩
theorem dX3_search_34 : decode cX3_search 34 = .ok (.invokestatic 43, 3) := by decide +kernel
theorem dX3_search_37 : decode cX3_search 37 = .ok (.istore_n 2, 1) := by decide +kernel
theorem dX3_search_38 : decode cX3_search 38 = .ok (.iload_n 2, 1) := by decide +kernel
theorem dX3_search_39 : decode cX3_search 39 = .ok (.aload_n 1, 1) := by decide +kernel
theorem dX3_search_40 : decode cX3_search 40 = .ok (.getfield 25, 3) := by decide +kernel
theorem m_904 : (Cond.methodLink "NoonValley$Gossip" 47 yX3_upperEnd) ∈ BW := bw (tb4 184 (by decide +kernel)) (by decide +kernel)
theorem m_905 : (Cond.static yX3_upperEnd) ∈ BW := bw (tb4 185 (by decide +kernel)) (by decide +kernel)
theorem vX3_47 : LST RX3 47 yX3_upperEnd cX3_upperEnd 1 (some .int) 1 := ⟨m_904, m_905, m_7, m_906, by decide, by decide, by decide +kernel⟩
theorem dX3_search_43 : decode cX3_search 43 = .ok (.invokestatic 47, 3) := by decide +kernel
theorem dX3_search_46 : decode cX3_search 46 = .ok (.if_icmp .gt 45, 3) := by decide +kernel
theorem dX3_search_91 : decode cX3_search 91 = .ok (.iconst (-1), 1) := by decide +kernel
theorem dX3_search_92 : decode cX3_search 92 = .ok (.ireturn, 1) := by decide +kernel
theorem dX3_search_49 : decode cX3_search 49 = .ok (.iconst 0, 1) := by decide +kernel
theorem dX3_search_50 : decode cX3_search 50 = .ok (.istore_n 3, 1) := by decide +kernel
theorem dX3_search_51 : decode cX3_search 51 = .ok (.iload_n 3, 1) := by decide +kernel
theorem dX3_search_52 : decode cX3_search 52 = .ok (.aload_n 1, 1) := by decide +kernel
theorem dX3_search_53 : decode cX3_search 53 = .ok (.getfield 25, 3) := by decide +kernel
theorem dX3_search_56 : decode cX3_search 56 = .ok (.if_icmp .ge 18, 3) := by decide +kernel
theorem dX3_search_74 : decode cX3_search 74 = .ok (.aload_n 0, 1) := by decide +kernel
theorem dX3_search_75 : decode cX3_search 75 = .ok (.iconst 0, 1) := by decide +kernel
theorem dX3_search_76 : decode cX3_search 76 = .ok (.iload_n 2, 1) := by decide +kernel
theorem dX3_search_77 : decode cX3_search 77 = .ok (.invokevirtual 50, 3) := by decide +kernel
theorem dX3_search_80 : decode cX3_search 80 = .ok (.ifCond .eq 5, 3) := by decide +kernel
theorem dX3_search_85 : decode cX3_search 85 = .ok (.iinc 2 1, 3) := by decide +kernel
theorem dX3_search_88 : decode cX3_search 88 = .ok (.goto (-50), 3) := by decide +kernel
theorem dX3_search_83 : decode cX3_search 83 = .ok (.iload_n 2, 1) := by decide +kernel
theorem dX3_search_84 : decode cX3_search 84 = .ok (.ireturn, 1) := by decide +kernel
theorem dX3_search_59 : decode cX3_search 59 = .ok (.aload_n 0, 1) := by decide +kernel
theorem dX3_search_60 : decode cX3_search 60 = .ok (.getfield 11, 3) := by decide +kernel
theorem dX3_search_63 : decode cX3_search 63 = .ok (.iload_n 3, 1) := by decide +kernel
theorem dX3_search_64 : decode cX3_search 64 = .ok (.iconst 1, 1) := by decide +kernel
theorem dX3_search_65 : decode cX3_search 65 = .ok (.iload_n 3, 1) := by decide +kernel
theorem dX3_search_66 : decode cX3_search 66 = .ok (.ishl, 1) := by decide +kernel
theorem dX3_search_67 : decode cX3_search 67 = .ok (.iastore, 1) := by decide +kernel
theorem dX3_search_68 : decode cX3_search 68 = .ok (.iinc 3 1, 3) := by decide +kernel
theorem dX3_search_71 : decode cX3_search 71 = .ok (.goto (-20), 3) := by decide +kernel
theorem m_886 : (Cond.code yX3_fewestCalls prog_5_method_4_code 2 (Option.some FieldType.int)) ∈ BW := bw (tb4 166 (by decide +kernel)) (by decide +kernel)
theorem dX3_fewestCalls_0 : decode cX3_fewestCalls 0 = .ok (.aload_n 1, 1) := by decide +kernel
theorem m_316 : (Cond.fieldLinkNest "NoonValley$Gossip" 15 "NoonValley$Valley" "gossipLength" "I" "NoonValley") ∈ NWS := nw (tb2 76 (by decide +kernel)) (by decide +kernel)
theorem dX3_fewestCalls_1 : decode cX3_fewestCalls 1 = .ok (.getfield 15, 3) := by decide +kernel
theorem dX3_fewestCalls_4 : decode cX3_fewestCalls 4 = .ok (.bipush (-2), 2) := by decide +kernel
theorem dX3_fewestCalls_6 : decode cX3_fewestCalls 6 = .ok (.if_icmp .ne 12, 3) := by decide +kernel
theorem dX3_fewestCalls_18 : decode cX3_fewestCalls 18 = .ok (.aload_n 1, 1) := by decide +kernel
theorem dX3_fewestCalls_19 : decode cX3_fewestCalls 19 = .ok (.getfield 15, 3) := by decide +kernel
theorem dX3_fewestCalls_22 : decode cX3_fewestCalls 22 = .ok (.ireturn, 1) := by decide +kernel
theorem dX3_fewestCalls_9 : decode cX3_fewestCalls 9 = .ok (.aload_n 1, 1) := by decide +kernel
theorem dX3_fewestCalls_10 : decode cX3_fewestCalls 10 = .ok (.aload_n 0, 1) := by decide +kernel
theorem dX3_fewestCalls_11 : decode cX3_fewestCalls 11 = .ok (.aload_n 1, 1) := by decide +kernel
theorem m_887 : (Cond.methodLink "NoonValley$Gossip" 21 yX3_search) ∈ BW := bw (tb4 167 (by decide +kernel)) (by decide +kernel)
theorem m_889 : (Cond.instanceMethod yX3_search) ∈ BW := bw (tb4 169 (by decide +kernel)) (by decide +kernel)
theorem s_3_5 : (Cond.selects RX3 yX3_search yX3_search) ∈ BW := bw (sl3 (y := yX3_search) (n := 3) 5 (by decide +kernel)) (by decide +kernel)
theorem vX3_21 : LV RX3 21 RX3 yX3_search cX3_search 4 (some .int) 1 := ⟨m_887, m_889, s_3_5, m_7, m_890, rfl, by decide, by decide, by decide +kernel⟩
theorem dX3_fewestCalls_12 : decode cX3_fewestCalls 12 = .ok (.invokevirtual 21, 3) := by decide +kernel
theorem dX3_fewestCalls_15 : decode cX3_fewestCalls 15 = .ok (.putfield 15, 3) := by decide +kernel
set_option maxHeartbeats 4000000 in
set_option maxRecDepth 100000 in
theorem C_X3_lowerEndG (l : Launch) (g : GG) (x : Int32) : MetI l g yX3_lowerEnd cX3_lowerEnd 1 (some .int) 0 0 0 [.int x] [] (fun r u => r = lwE x ∧ u = []) := by
  refine MetI.of (own := RX3) rfl (by decide) (Nat.le_of_ble_eq_true rfl) ?_
  intro p e s m below meth c A ls args Q hQ X hr hin hW hl
  have hx := X.1
  have hb := X.2.1
  have hl : lv_has ls 1 [(0, .int x)] := hl
  refine lv_iload_n (pc := 0) hx hb dX3_lowerEnd_0 rfl (lv_at hl 0 rfl) ?_
  refine lv_iconst (v := 4) (pc := 1) hx hb dX3_lowerEnd_1 (by decide) ?_
  refine lv_icmp_ge (tgt := 15) (pc := 2) hx hb dX3_lowerEnd_2 rfl (fun c1 => ?_) (fun c1 => ?_)
  · refine lv_iconst (v := 2) (pc := 15) hx hb dX3_lowerEnd_15 (by decide) ?_
    refine lv_iload_n (pc := 16) hx hb dX3_lowerEnd_16 rfl (lv_at hl 0 rfl) ?_
    refine lv_imul (pc := 17) hx hb dX3_lowerEnd_17 ?_
    refine lv_iconst (v := 4) (pc := 18) hx hb dX3_lowerEnd_18 (by decide) ?_
    refine lv_isub (pc := 19) hx hb dX3_lowerEnd_19 ?_
    exact e_i X hQ hr hW (u := []) [] rfl rfl (⟨(if_neg (Int32.not_lt.mpr c1)).symm, rfl⟩) ⟨Nat.le_of_ble_eq_true rfl, Nat.le_of_ble_eq_true rfl⟩ dX3_lowerEnd_20
  · refine lv_iload_n (pc := 5) hx hb dX3_lowerEnd_5 rfl (lv_at hl 0 rfl) ?_
    refine lv_iload_n (pc := 6) hx hb dX3_lowerEnd_6 rfl (lv_at hl 0 rfl) ?_
    refine lv_iconst (v := 1) (pc := 7) hx hb dX3_lowerEnd_7 (by decide) ?_
    refine lv_isub (pc := 8) hx hb dX3_lowerEnd_8 ?_
    refine lv_imul (pc := 9) hx hb dX3_lowerEnd_9 ?_
    refine lv_iconst (v := 2) (pc := 10) hx hb dX3_lowerEnd_10 (by decide) ?_
    refine lv_idiv (pc := 11) hx hb dX3_lowerEnd_11 (by decide) ?_
    refine lv_topi (fun v2 ev2 => ?_)
    obtain rfl : v2 = (x * (x - 1)) / 2 := ev2.trans (rfl)
    refine lv_goto (tgt := 20) (pc := 12) hx hb dX3_lowerEnd_12 rfl ?_
    exact e_i X hQ hr hW (u := []) [] rfl rfl (⟨(if_pos (Int32.not_le.mp c1)).symm, rfl⟩) ⟨Nat.le_of_ble_eq_true rfl, Nat.le_of_ble_eq_true rfl⟩ dX3_lowerEnd_20

set_option maxHeartbeats 4000000 in
set_option maxRecDepth 100000 in
theorem C_X3_upperEndG (l : Launch) (g : GG) (x : Int32) : MetI l g yX3_upperEnd cX3_upperEnd 1 (some .int) 0 0 0 [.int x] [] (fun r u => r = upE x ∧ u = []) := by
  refine MetI.of (own := RX3) rfl (by decide) (Nat.le_of_ble_eq_true rfl) ?_
  intro p e s m below meth c A ls args Q hQ X hr hin hW hl
  have hx := X.1
  have hb := X.2.1
  have hl : lv_has ls 1 [(0, .int x)] := hl
  refine lv_iload_n (pc := 0) hx hb dX3_upperEnd_0 rfl (lv_at hl 0 rfl) ?_
  refine lv_iconst (v := 4) (pc := 1) hx hb dX3_upperEnd_1 (by decide) ?_
  refine lv_icmp_ge (tgt := 15) (pc := 2) hx hb dX3_upperEnd_2 rfl (fun c1 => ?_) (fun c1 => ?_)
  · refine lv_iconst (v := 2) (pc := 15) hx hb dX3_upperEnd_15 (by decide) ?_
    refine lv_iload_n (pc := 16) hx hb dX3_upperEnd_16 rfl (lv_at hl 0 rfl) ?_
    refine lv_imul (pc := 17) hx hb dX3_upperEnd_17 ?_
    refine lv_iconst (v := 3) (pc := 18) hx hb dX3_upperEnd_18 (by decide) ?_
    refine lv_isub (pc := 19) hx hb dX3_upperEnd_19 ?_
    exact e_i X hQ hr hW (u := []) [] rfl rfl (⟨(if_neg (Int32.not_lt.mpr c1)).symm, rfl⟩) ⟨Nat.le_of_ble_eq_true rfl, Nat.le_of_ble_eq_true rfl⟩ dX3_upperEnd_20
  · refine lv_iload_n (pc := 5) hx hb dX3_upperEnd_5 rfl (lv_at hl 0 rfl) ?_
    refine lv_iload_n (pc := 6) hx hb dX3_upperEnd_6 rfl (lv_at hl 0 rfl) ?_
    refine lv_iconst (v := 1) (pc := 7) hx hb dX3_upperEnd_7 (by decide) ?_
    refine lv_isub (pc := 8) hx hb dX3_upperEnd_8 ?_
    refine lv_imul (pc := 9) hx hb dX3_upperEnd_9 ?_
    refine lv_iconst (v := 2) (pc := 10) hx hb dX3_upperEnd_10 (by decide) ?_
    refine lv_idiv (pc := 11) hx hb dX3_upperEnd_11 (by decide) ?_
    refine lv_topi (fun v2 ev2 => ?_)
    obtain rfl : v2 = (x * (x - 1)) / 2 := ev2.trans (rfl)
    refine lv_goto (tgt := 20) (pc := 12) hx hb dX3_upperEnd_12 rfl ?_
    exact e_i X hQ hr hW (u := []) [] rfl rfl (⟨(if_pos (Int32.not_le.mp c1)).symm, rfl⟩) ⟨Nat.le_of_ble_eq_true rfl, Nat.le_of_ble_eq_true rfl⟩ dX3_upperEnd_20

set_option maxHeartbeats 4000000 in
set_option maxRecDepth 100000 in
theorem C_X3_canEndG (l : Launch) (g : GG) (gs kn : Nat) (al : Int32) (kf : Nat → Int32) (v v3 v4 v5 v6 v7 v8 v9 v10 v11 v12 v13 v15 : Nat) (de gl : Int32) (lc pp : Nat) (hlc : lc ≤ 12) (hpp : pp ≤ 5) (lf : Int32) : MetI l g yX3_canEnd cX3_canEnd 6 (some .boolean) 1 0 0 [.ref gs, .int lf] [(gs, .inr (3, [.ref v, .int al, .ref kn])), (kn, .inl (g.2.1 1, 5, .inl kf)), (v, .inr (10, [.int (nI pp), .int (nI lc), .int de, .ref v3, .ref v4, .ref v5, .ref v6, .ref v7, .ref v8, .ref v9, .ref v10, .ref v11, .ref v12, .ref v13, .int gl, .ref v15]))] (fun r u => (r = 0 ∨ r = 1) ∧ u = [(gs, .inr (3, [.ref v, .int al, .ref kn])), (kn, .inl (g.2.1 1, 5, .inl kf)), (v, .inr (10, [.int (nI pp), .int (nI lc), .int de, .ref v3, .ref v4, .ref v5, .ref v6, .ref v7, .ref v8, .ref v9, .ref v10, .ref v11, .ref v12, .ref v13, .int gl, .ref v15]))]) := by
  refine MetI.of (own := RX3) rfl (by decide) (Nat.le_of_ble_eq_true rfl) ?_
  intro p e s m below meth c A ls args Q hQ X hr hin hW hl
  have hx := X.1
  have hb := X.2.1
  have hl : lv_has ls 6 [(0, .ref gs), (1, .int lf)] := hl
  refine lv_iconst (v := 0) (pc := 0) hx hb dX3_canEnd_0 (by decide) ?_
  refine lv_istore_n (lv' := [(2, .int 0), (0, .ref gs), (1, .int lf)]) (pc := 1) hx hb dX3_canEnd_1 rfl hl (by decide) rfl (fun ls hl => ?_)
  refine lv_iconst (v := 0) (pc := 2) hx hb dX3_canEnd_2 (by decide) ?_
  refine lv_istore_n (lv' := [(3, .int 0), (2, .int 0), (0, .ref gs), (1, .int lf)]) (pc := 3) hx hb dX3_canEnd_3 rfl hl (by decide) rfl (fun ls hl => ?_)
  have loop1 : ∀ (fu : Nat) (i : Nat) (hp : Int32), (pp < fu + i) → (i ≤ pp) → ∀ (H : Heap) (locs : List Loc) (ls : Array Slot), WD g A s H locs [(gs, .inr (3, [.ref v, .int al, .ref kn])), (kn, .inl (g.2.1 1, 5, .inl kf)), (v, .inr (10, [.int (nI pp), .int (nI lc), .int de, .ref v3, .ref v4, .ref v5, .ref v6, .ref v7, .ref v8, .ref v9, .ref v10, .ref v11, .ref v12, .ref v13, .int gl, .ref v15]))] → lv_has ls 6 [(0, .ref gs), (1, .int lf), (2, .int hp), (3, .int (nI i))] → W p l e (RM 1 0 0) s m args below meth c H locs 0 0 Q (F0 m 4 ls []) := by
    intro fu
    induction fu with
    | zero =>
      intro i hp hm hi
      exact absurd hm (by omega)
    | succ fu ih1 =>
      intro i hp hm hi H locs ls hW hl
      refine lv_iload_n (pc := 4) hx hb dX3_canEnd_4 rfl (lv_at hl 3 rfl) ?_
      refine lv_aload_n (pc := 5) hx hb dX3_canEnd_5 rfl (lv_at hl 0 rfl) ?_
      refine r_get X hW 0 ciX3 0 rfl (by decide) m_196 rfl rfl dX3_canEnd_6 ?_
      refine r_getN X hW 2 ciX10 0 rfl (by decide) m_274 rfl rfl dX3_canEnd_9 ?_
      refine lv_icmp_ge (tgt := 86) (pc := 12) hx hb dX3_canEnd_12 rfl (fun c1 => ?_) (fun c1 => ?_)
      · refine lv_iload_n (pc := 86) hx hb dX3_canEnd_86 rfl (lv_at hl 2 rfl) ?_
        refine lv_iconst (v := 2) (pc := 87) hx hb dX3_canEnd_87 (by decide) ?_
        refine lv_iload_n (pc := 88) hx hb dX3_canEnd_88 rfl (lv_at hl 1 rfl) ?_
        refine lv_imul (pc := 89) hx hb dX3_canEnd_89 ?_
        refine lv_icmp_gt (tgt := 97) (pc := 90) hx hb dX3_canEnd_90 rfl (fun c2 => ?_) (fun c2 => ?_)
        · refine lv_iconst (v := 0) (pc := 97) hx hb dX3_canEnd_97 (by decide) ?_
          exact e_z X hQ hr hW (u := [(gs, .inr (3, [.ref v, .int al, .ref kn])), (kn, .inl (g.2.1 1, 5, .inl kf)), (v, .inr (10, [.int (nI pp), .int (nI lc), .int de, .ref v3, .ref v4, .ref v5, .ref v6, .ref v7, .ref v8, .ref v9, .ref v10, .ref v11, .ref v12, .ref v13, .int gl, .ref v15]))]) rfl [0, 1, 2] rfl rfl (⟨Or.inl rfl, rfl⟩) ⟨Nat.le_of_ble_eq_true rfl, Nat.le_of_ble_eq_true rfl⟩ dX3_canEnd_98
        · refine lv_iconst (v := 1) (pc := 93) hx hb dX3_canEnd_93 (by decide) ?_
          refine lv_goto (tgt := 98) (pc := 94) hx hb dX3_canEnd_94 rfl ?_
          exact e_z X hQ hr hW (u := [(gs, .inr (3, [.ref v, .int al, .ref kn])), (kn, .inl (g.2.1 1, 5, .inl kf)), (v, .inr (10, [.int (nI pp), .int (nI lc), .int de, .ref v3, .ref v4, .ref v5, .ref v6, .ref v7, .ref v8, .ref v9, .ref v10, .ref v11, .ref v12, .ref v13, .int gl, .ref v15]))]) rfl [0, 1, 2] rfl rfl (⟨Or.inr rfl, rfl⟩) ⟨Nat.le_of_ble_eq_true rfl, Nat.le_of_ble_eq_true rfl⟩ dX3_canEnd_98
      · have hil : i < pp := ge_f (by omega) (by omega) c1
        refine lv_aload_n (pc := 15) hx hb dX3_canEnd_15 rfl (lv_at hl 0 rfl) ?_
        refine r_get X hW 0 ciX3 2 rfl (by decide) m_198 rfl rfl dX3_canEnd_16 ?_
        refine lv_iload_n (pc := 19) hx hb dX3_canEnd_19 rfl (lv_at hl 3 rfl) ?_
        refine r_iald X hW 1 rfl (vp_in_nI (by omega) (by decide)) dX3_canEnd_20 ?_
        refine lv_topi (fun uv3 euv3 => ?_)
        refine lv_aload_n (pc := 21) hx hb dX3_canEnd_21 rfl (lv_at hl 0 rfl) ?_
        refine r_get X hW 0 ciX3 1 rfl (by decide) m_197 rfl rfl dX3_canEnd_22 ?_
        refine lv_icmp_eq (tgt := 31) (pc := 25) hx hb dX3_canEnd_25 rfl (fun c4 => ?_) (fun c4 => ?_)
        · generalize hp = hp9 at hl
          refine lv_iconst (v := 0) (pc := 31) hx hb dX3_canEnd_31 (by decide) ?_
          refine lv_istore (lv' := [(4, .int 0), (0, .ref gs), (1, .int lf), (2, .int hp9), (3, .int (nI i))]) (pc := 32) hx hb dX3_canEnd_32 hl (by decide) rfl (fun ls hl => ?_)
          refine lv_iconst (v := 0) (pc := 34) hx hb dX3_canEnd_34 (by decide) ?_
          refine lv_istore (lv' := [(5, .int 0), (4, .int 0), (0, .ref gs), (1, .int lf), (2, .int hp9), (3, .int (nI i))]) (pc := 35) hx hb dX3_canEnd_35 hl (by decide) rfl (fun ls hl => ?_)
          have loop2 : ∀ (fv : Nat) (k : Nat) (wo : Int32), (pp < fv + k) → (k ≤ pp) → ∀ (H : Heap) (locs : List Loc) (ls : Array Slot), WD g A s H locs [(gs, .inr (3, [.ref v, .int al, .ref kn])), (kn, .inl (g.2.1 1, 5, .inl kf)), (v, .inr (10, [.int (nI pp), .int (nI lc), .int de, .ref v3, .ref v4, .ref v5, .ref v6, .ref v7, .ref v8, .ref v9, .ref v10, .ref v11, .ref v12, .ref v13, .int gl, .ref v15]))] → lv_has ls 6 [(0, .ref gs), (1, .int lf), (2, .int hp9), (3, .int (nI i)), (4, .int wo), (5, .int (nI k))] → W p l e (RM 1 0 0) s m args below meth c H locs 0 0 Q (F0 m 37 ls []) := by
            intro fv
            induction fv with
            | zero =>
              intro k wo hm2 hk
              exact absurd hm2 (by omega)
            | succ fv ih2 =>
              intro k wo hm2 hk H locs ls hW hl
              refine lv_iload (pc := 37) hx hb dX3_canEnd_37 (lv_at hl 5 rfl) ?_
              refine lv_aload_n (pc := 39) hx hb dX3_canEnd_39 rfl (lv_at hl 0 rfl) ?_
              refine r_get X hW 0 ciX3 0 rfl (by decide) m_196 rfl rfl dX3_canEnd_40 ?_
              refine r_getN X hW 2 ciX10 0 rfl (by decide) m_274 rfl rfl dX3_canEnd_43 ?_
              refine lv_icmp_ge (tgt := 72) (pc := 46) hx hb dX3_canEnd_46 rfl (fun c5 => ?_) (fun c5 => ?_)
              · refine lv_iload (pc := 72) hx hb dX3_canEnd_72 (lv_at hl 4 rfl) ?_
                refine lv_iload_n (pc := 74) hx hb dX3_canEnd_74 rfl (lv_at hl 1 rfl) ?_
                refine lv_icmp_le (tgt := 80) (pc := 75) hx hb dX3_canEnd_75 rfl (fun c6 => ?_) (fun c6 => ?_)
                · refine lv_iinc (v := nI (i + 1)) (lv' := [(3, .int (nI (i + 1))), (0, .ref gs), (1, .int lf), (2, .int hp9), (4, .int wo), (5, .int (nI k))]) (pc := 80) hx hb dX3_canEnd_80 hl (k := 3) rfl ((nI_succ i).symm) (by decide) rfl (fun ls hl => ?_)
                  refine lv_goto (tgt := 4) (pc := 83) hx hb dX3_canEnd_83 rfl ?_
                  have hW : WD g A s _ _ [(gs, .inr (3, [.ref v, .int al, .ref kn])), (kn, .inl (g.2.1 1, 5, .inl kf)), (v, .inr (10, [.int (nI pp), .int (nI lc), .int de, .ref v3, .ref v4, .ref v5, .ref v6, .ref v7, .ref v8, .ref v9, .ref v10, .ref v11, .ref v12, .ref v13, .int gl, .ref v15]))] := hW.pick [0, 1, 2] rfl rfl
                  exact ih1 (i + 1) hp9 (by omega) (by omega) _ _ _ hW (lv_sub hl [1, 2, 3, 0] rfl)
                · refine lv_iconst (v := 0) (pc := 78) hx hb dX3_canEnd_78 (by decide) ?_
                  exact e_z X hQ hr hW (u := [(gs, .inr (3, [.ref v, .int al, .ref kn])), (kn, .inl (g.2.1 1, 5, .inl kf)), (v, .inr (10, [.int (nI pp), .int (nI lc), .int de, .ref v3, .ref v4, .ref v5, .ref v6, .ref v7, .ref v8, .ref v9, .ref v10, .ref v11, .ref v12, .ref v13, .int gl, .ref v15]))]) rfl [0, 1, 2] rfl rfl (⟨Or.inl rfl, rfl⟩) ⟨Nat.le_of_ble_eq_true rfl, Nat.le_of_ble_eq_true rfl⟩ dX3_canEnd_79
              · have hkl : k < pp := ge_f (by omega) (by omega) c5
                refine lv_aload_n (pc := 49) hx hb dX3_canEnd_49 rfl (lv_at hl 0 rfl) ?_
                refine r_get X hW 0 ciX3 2 rfl (by decide) m_198 rfl rfl dX3_canEnd_50 ?_
                refine lv_iload (pc := 53) hx hb dX3_canEnd_53 (lv_at hl 5 rfl) ?_
                refine r_iald X hW 1 rfl (vp_in_nI (by omega) (by decide)) dX3_canEnd_55 ?_
                refine lv_topi (fun uv7 euv7 => ?_)
                refine lv_iload_n (pc := 56) hx hb dX3_canEnd_56 rfl (lv_at hl 3 rfl) ?_
                refine c_SNi (pc := 57) (As := [.int uv7, .int (nI i)]) (rest := []) (wr := [(gs, .inr (3, [.ref v, .int al, .ref kn])), (kn, .inl (g.2.1 1, 5, .inl kf)), (v, .inr (10, [.int (nI pp), .int (nI lc), .int de, .ref v3, .ref v4, .ref v5, .ref v6, .ref v7, .ref v8, .ref v9, .ref v10, .ref v11, .ref v12, .ref v13, .int gl, .ref v15]))]) X hW (C_X11_has l g uv7 (nI i)) vX3_73 [] [0, 1, 2] rfl rfl rfl rfl rfl rfl hl.1 rfl (Nat.le_of_ble_eq_true rfl) ⟨Nat.le_of_ble_eq_true rfl, Nat.le_of_ble_eq_true rfl⟩ ⟨Nat.le_of_ble_eq_true rfl, Nat.le_of_ble_eq_true rfl⟩ dX3_canEnd_57 (fun r8 u9 H locs hq hW => ?_)
                obtain ⟨rfl, rfl⟩ := hq
                have hW : WD g A s _ _ [(gs, .inr (3, [.ref v, .int al, .ref kn])), (kn, .inl (g.2.1 1, 5, .inl kf)), (v, .inr (10, [.int (nI pp), .int (nI lc), .int de, .ref v3, .ref v4, .ref v5, .ref v6, .ref v7, .ref v8, .ref v9, .ref v10, .ref v11, .ref v12, .ref v13, .int gl, .ref v15]))] := hW
                refine lv_if_ne (tgt := 66) (pc := 60) hx hb dX3_canEnd_60 rfl (fun c9 => ?_) (fun c9 => ?_)
                · refine lv_iinc (v := nI (k + 1)) (lv' := [(5, .int (nI (k + 1))), (0, .ref gs), (1, .int lf), (2, .int hp9), (3, .int (nI i)), (4, .int wo)]) (pc := 66) hx hb dX3_canEnd_66 hl (k := 5) rfl ((nI_succ k).symm) (by decide) rfl (fun ls hl => ?_)
                  refine lv_goto (tgt := 37) (pc := 69) hx hb dX3_canEnd_69 rfl ?_
                  have hW : WD g A s _ _ [(gs, .inr (3, [.ref v, .int al, .ref kn])), (kn, .inl (g.2.1 1, 5, .inl kf)), (v, .inr (10, [.int (nI pp), .int (nI lc), .int de, .ref v3, .ref v4, .ref v5, .ref v6, .ref v7, .ref v8, .ref v9, .ref v10, .ref v11, .ref v12, .ref v13, .int gl, .ref v15]))] := hW.pick [0, 1, 2] rfl rfl
                  exact ih2 (k + 1) wo (by omega) (by omega) _ _ _ hW (lv_sub hl [1, 2, 3, 4, 5, 0] rfl)
                · obtain ⟨uv10, euv10⟩ : ∃ y : Int32, wo + Int32.ofInt 1 = y := ⟨_, rfl⟩
                  refine lv_iinc (v := uv10) (lv' := [(4, .int uv10), (0, .ref gs), (1, .int lf), (2, .int hp9), (3, .int (nI i)), (5, .int (nI k))]) (pc := 63) hx hb dX3_canEnd_63 hl (k := 4) rfl euv10 (by decide) rfl (fun ls hl => ?_)
                  refine lv_iinc (v := nI (k + 1)) (lv' := [(5, .int (nI (k + 1))), (4, .int uv10), (0, .ref gs), (1, .int lf), (2, .int hp9), (3, .int (nI i))]) (pc := 66) hx hb dX3_canEnd_66 hl (k := 5) rfl ((nI_succ k).symm) (by decide) rfl (fun ls hl => ?_)
                  refine lv_goto (tgt := 37) (pc := 69) hx hb dX3_canEnd_69 rfl ?_
                  have hW : WD g A s _ _ [(gs, .inr (3, [.ref v, .int al, .ref kn])), (kn, .inl (g.2.1 1, 5, .inl kf)), (v, .inr (10, [.int (nI pp), .int (nI lc), .int de, .ref v3, .ref v4, .ref v5, .ref v6, .ref v7, .ref v8, .ref v9, .ref v10, .ref v11, .ref v12, .ref v13, .int gl, .ref v15]))] := hW.pick [0, 1, 2] rfl rfl
                  exact ih2 (k + 1) uv10 (by omega) (by omega) _ _ _ hW (lv_sub hl [2, 3, 4, 5, 1, 0] rfl)
          exact loop2 (pp + 1) 0 0 (by omega) (Nat.zero_le _) _ _ _ hW (lv_sub hl [2, 3, 4, 5, 1, 0] rfl)
        · obtain ⟨uv11, euv11⟩ : ∃ y : Int32, hp + Int32.ofInt 1 = y := ⟨_, rfl⟩
          refine lv_iinc (v := uv11) (lv' := [(2, .int uv11), (0, .ref gs), (1, .int lf), (3, .int (nI i))]) (pc := 28) hx hb dX3_canEnd_28 hl (k := 2) rfl euv11 (by decide) rfl (fun ls hl => ?_)
          generalize uv11 = hp9 at hl
          refine lv_iconst (v := 0) (pc := 31) hx hb dX3_canEnd_31 (by decide) ?_
          refine lv_istore (lv' := [(4, .int 0), (2, .int hp9), (0, .ref gs), (1, .int lf), (3, .int (nI i))]) (pc := 32) hx hb dX3_canEnd_32 hl (by decide) rfl (fun ls hl => ?_)
          refine lv_iconst (v := 0) (pc := 34) hx hb dX3_canEnd_34 (by decide) ?_
          refine lv_istore (lv' := [(5, .int 0), (4, .int 0), (2, .int hp9), (0, .ref gs), (1, .int lf), (3, .int (nI i))]) (pc := 35) hx hb dX3_canEnd_35 hl (by decide) rfl (fun ls hl => ?_)
          have loop2 : ∀ (fv : Nat) (k : Nat) (wo : Int32), (pp < fv + k) → (k ≤ pp) → ∀ (H : Heap) (locs : List Loc) (ls : Array Slot), WD g A s H locs [(gs, .inr (3, [.ref v, .int al, .ref kn])), (kn, .inl (g.2.1 1, 5, .inl kf)), (v, .inr (10, [.int (nI pp), .int (nI lc), .int de, .ref v3, .ref v4, .ref v5, .ref v6, .ref v7, .ref v8, .ref v9, .ref v10, .ref v11, .ref v12, .ref v13, .int gl, .ref v15]))] → lv_has ls 6 [(0, .ref gs), (1, .int lf), (2, .int hp9), (3, .int (nI i)), (4, .int wo), (5, .int (nI k))] → W p l e (RM 1 0 0) s m args below meth c H locs 0 0 Q (F0 m 37 ls []) := by
            intro fv
            induction fv with
            | zero =>
              intro k wo hm2 hk
              exact absurd hm2 (by omega)
            | succ fv ih2 =>
              intro k wo hm2 hk H locs ls hW hl
              refine lv_iload (pc := 37) hx hb dX3_canEnd_37 (lv_at hl 5 rfl) ?_
              refine lv_aload_n (pc := 39) hx hb dX3_canEnd_39 rfl (lv_at hl 0 rfl) ?_
              refine r_get X hW 0 ciX3 0 rfl (by decide) m_196 rfl rfl dX3_canEnd_40 ?_
              refine r_getN X hW 2 ciX10 0 rfl (by decide) m_274 rfl rfl dX3_canEnd_43 ?_
              refine lv_icmp_ge (tgt := 72) (pc := 46) hx hb dX3_canEnd_46 rfl (fun c12 => ?_) (fun c12 => ?_)
              · refine lv_iload (pc := 72) hx hb dX3_canEnd_72 (lv_at hl 4 rfl) ?_
                refine lv_iload_n (pc := 74) hx hb dX3_canEnd_74 rfl (lv_at hl 1 rfl) ?_
                refine lv_icmp_le (tgt := 80) (pc := 75) hx hb dX3_canEnd_75 rfl (fun c13 => ?_) (fun c13 => ?_)
                · refine lv_iinc (v := nI (i + 1)) (lv' := [(3, .int (nI (i + 1))), (0, .ref gs), (1, .int lf), (2, .int hp9), (4, .int wo), (5, .int (nI k))]) (pc := 80) hx hb dX3_canEnd_80 hl (k := 3) rfl ((nI_succ i).symm) (by decide) rfl (fun ls hl => ?_)
                  refine lv_goto (tgt := 4) (pc := 83) hx hb dX3_canEnd_83 rfl ?_
                  have hW : WD g A s _ _ [(gs, .inr (3, [.ref v, .int al, .ref kn])), (kn, .inl (g.2.1 1, 5, .inl kf)), (v, .inr (10, [.int (nI pp), .int (nI lc), .int de, .ref v3, .ref v4, .ref v5, .ref v6, .ref v7, .ref v8, .ref v9, .ref v10, .ref v11, .ref v12, .ref v13, .int gl, .ref v15]))] := hW.pick [0, 1, 2] rfl rfl
                  exact ih1 (i + 1) hp9 (by omega) (by omega) _ _ _ hW (lv_sub hl [1, 2, 3, 0] rfl)
                · refine lv_iconst (v := 0) (pc := 78) hx hb dX3_canEnd_78 (by decide) ?_
                  exact e_z X hQ hr hW (u := [(gs, .inr (3, [.ref v, .int al, .ref kn])), (kn, .inl (g.2.1 1, 5, .inl kf)), (v, .inr (10, [.int (nI pp), .int (nI lc), .int de, .ref v3, .ref v4, .ref v5, .ref v6, .ref v7, .ref v8, .ref v9, .ref v10, .ref v11, .ref v12, .ref v13, .int gl, .ref v15]))]) rfl [0, 1, 2] rfl rfl (⟨Or.inl rfl, rfl⟩) ⟨Nat.le_of_ble_eq_true rfl, Nat.le_of_ble_eq_true rfl⟩ dX3_canEnd_79
              · have hkl : k < pp := ge_f (by omega) (by omega) c12
                refine lv_aload_n (pc := 49) hx hb dX3_canEnd_49 rfl (lv_at hl 0 rfl) ?_
                refine r_get X hW 0 ciX3 2 rfl (by decide) m_198 rfl rfl dX3_canEnd_50 ?_
                refine lv_iload (pc := 53) hx hb dX3_canEnd_53 (lv_at hl 5 rfl) ?_
                refine r_iald X hW 1 rfl (vp_in_nI (by omega) (by decide)) dX3_canEnd_55 ?_
                refine lv_topi (fun uv14 euv14 => ?_)
                refine lv_iload_n (pc := 56) hx hb dX3_canEnd_56 rfl (lv_at hl 3 rfl) ?_
                refine c_SNi (pc := 57) (As := [.int uv14, .int (nI i)]) (rest := []) (wr := [(gs, .inr (3, [.ref v, .int al, .ref kn])), (kn, .inl (g.2.1 1, 5, .inl kf)), (v, .inr (10, [.int (nI pp), .int (nI lc), .int de, .ref v3, .ref v4, .ref v5, .ref v6, .ref v7, .ref v8, .ref v9, .ref v10, .ref v11, .ref v12, .ref v13, .int gl, .ref v15]))]) X hW (C_X11_has l g uv14 (nI i)) vX3_73 [] [0, 1, 2] rfl rfl rfl rfl rfl rfl hl.1 rfl (Nat.le_of_ble_eq_true rfl) ⟨Nat.le_of_ble_eq_true rfl, Nat.le_of_ble_eq_true rfl⟩ ⟨Nat.le_of_ble_eq_true rfl, Nat.le_of_ble_eq_true rfl⟩ dX3_canEnd_57 (fun r15 u9 H locs hq hW => ?_)
                obtain ⟨rfl, rfl⟩ := hq
                have hW : WD g A s _ _ [(gs, .inr (3, [.ref v, .int al, .ref kn])), (kn, .inl (g.2.1 1, 5, .inl kf)), (v, .inr (10, [.int (nI pp), .int (nI lc), .int de, .ref v3, .ref v4, .ref v5, .ref v6, .ref v7, .ref v8, .ref v9, .ref v10, .ref v11, .ref v12, .ref v13, .int gl, .ref v15]))] := hW
                refine lv_if_ne (tgt := 66) (pc := 60) hx hb dX3_canEnd_60 rfl (fun c16 => ?_) (fun c16 => ?_)
                · refine lv_iinc (v := nI (k + 1)) (lv' := [(5, .int (nI (k + 1))), (0, .ref gs), (1, .int lf), (2, .int hp9), (3, .int (nI i)), (4, .int wo)]) (pc := 66) hx hb dX3_canEnd_66 hl (k := 5) rfl ((nI_succ k).symm) (by decide) rfl (fun ls hl => ?_)
                  refine lv_goto (tgt := 37) (pc := 69) hx hb dX3_canEnd_69 rfl ?_
                  have hW : WD g A s _ _ [(gs, .inr (3, [.ref v, .int al, .ref kn])), (kn, .inl (g.2.1 1, 5, .inl kf)), (v, .inr (10, [.int (nI pp), .int (nI lc), .int de, .ref v3, .ref v4, .ref v5, .ref v6, .ref v7, .ref v8, .ref v9, .ref v10, .ref v11, .ref v12, .ref v13, .int gl, .ref v15]))] := hW.pick [0, 1, 2] rfl rfl
                  exact ih2 (k + 1) wo (by omega) (by omega) _ _ _ hW (lv_sub hl [1, 2, 3, 4, 5, 0] rfl)
                · obtain ⟨uv17, euv17⟩ : ∃ y : Int32, wo + Int32.ofInt 1 = y := ⟨_, rfl⟩
                  refine lv_iinc (v := uv17) (lv' := [(4, .int uv17), (0, .ref gs), (1, .int lf), (2, .int hp9), (3, .int (nI i)), (5, .int (nI k))]) (pc := 63) hx hb dX3_canEnd_63 hl (k := 4) rfl euv17 (by decide) rfl (fun ls hl => ?_)
                  refine lv_iinc (v := nI (k + 1)) (lv' := [(5, .int (nI (k + 1))), (4, .int uv17), (0, .ref gs), (1, .int lf), (2, .int hp9), (3, .int (nI i))]) (pc := 66) hx hb dX3_canEnd_66 hl (k := 5) rfl ((nI_succ k).symm) (by decide) rfl (fun ls hl => ?_)
                  refine lv_goto (tgt := 37) (pc := 69) hx hb dX3_canEnd_69 rfl ?_
                  have hW : WD g A s _ _ [(gs, .inr (3, [.ref v, .int al, .ref kn])), (kn, .inl (g.2.1 1, 5, .inl kf)), (v, .inr (10, [.int (nI pp), .int (nI lc), .int de, .ref v3, .ref v4, .ref v5, .ref v6, .ref v7, .ref v8, .ref v9, .ref v10, .ref v11, .ref v12, .ref v13, .int gl, .ref v15]))] := hW.pick [0, 1, 2] rfl rfl
                  exact ih2 (k + 1) uv17 (by omega) (by omega) _ _ _ hW (lv_sub hl [2, 3, 4, 5, 1, 0] rfl)
          exact loop2 (pp + 1) 0 0 (by omega) (Nat.zero_le _) _ _ _ hW (lv_sub hl [3, 4, 2, 5, 1, 0] rfl)
  exact loop1 (pp + 1) 0 0 (by omega) (Nat.zero_le _) _ _ _ hW (lv_sub hl [2, 3, 1, 0] rfl)

set_option maxHeartbeats 4000000 in
set_option maxRecDepth 100000 in
theorem C_X3_goOn_7 (l : Launch) (g : GG) (gs kn : Nat) (al : Int32) (kf : Nat → Int32) (v v3 v4 v5 v6 v7 v8 v9 v10 v11 v12 v13 v15 : Nat) (de gl : Int32) (lc pp : Nat) (hlc : lc ≤ 12) (hpp : pp ≤ 5) (L gr0 : Nat → Int32) (ca : Nat) (hL : endsIn L lc pp) (hg0 : gb gr0) (hca : ca ≤ 7) : MetI l g yX3_goOn cX3_goOn 8 (some .boolean) 2 0 0 [.ref gs, .int 7, .int (nI ca)] [(gs, .inr (3, [.ref v, .int al, .ref kn])), (kn, .inl (g.2.1 1, 5, .inl kf)), (v, .inr (10, [.int (nI pp), .int (nI lc), .int de, .ref v3, .ref v4, .ref v5, .ref v6, .ref v7, .ref v8, .ref v9, .ref v10, .ref v11, .ref v12, .ref v13, .int gl, .ref v15])), (v9, .inl (g.2.1 1, 72, .inl L)), (v15, .inl (g.2.1 1, 7, .inl gr0))] (fun r u => ∃ kf' gr' : Nat → Int32, (r = 0 ∨ r = 1) ∧ gb gr' ∧ u = [(gs, .inr (3, [.ref v, .int al, .ref kn])), (kn, .inl (g.2.1 1, 5, .inl kf')), (v, .inr (10, [.int (nI pp), .int (nI lc), .int de, .ref v3, .ref v4, .ref v5, .ref v6, .ref v7, .ref v8, .ref v9, .ref v10, .ref v11, .ref v12, .ref v13, .int gl, .ref v15])), (v9, .inl (g.2.1 1, 72, .inl L)), (v15, .inl (g.2.1 1, 7, .inl gr'))]) := by
  refine MetI.of (own := RX3) rfl (by decide) (Nat.le_of_ble_eq_true rfl) ?_
  intro p e s m below meth c A ls args Q hQ X hr hin hW hl
  have hx := X.1
  have hb := X.2.1
  have hl : lv_has ls 8 [(0, .ref gs), (1, .int 7), (2, .int (nI ca))] := hl
  refine lv_aload_n (pc := 0) hx hb dX3_goOn_0 rfl (lv_at hl 0 rfl) ?_
  refine lv_iload_n (pc := 1) hx hb dX3_goOn_1 rfl (lv_at hl 2 rfl) ?_
  refine lv_iload_n (pc := 2) hx hb dX3_goOn_2 rfl (lv_at hl 1 rfl) ?_
  refine lv_isub (pc := 3) hx hb dX3_goOn_3 ?_
  refine c_Vi (pc := 4) (As := [.int ((nI ca) - 7)]) (rest := []) (wr := [(v9, .inl (g.2.1 1, 72, .inl L)), (v15, .inl (g.2.1 1, 7, .inl gr0))]) X hW 0 ciX3 rfl (C_X3_canEndG l g gs kn al kf v v3 v4 v5 v6 v7 v8 v9 v10 v11 v12 v13 v15 de gl lc pp hlc hpp ((nI ca) - 7)) vX3_54 [0, 1, 2] [3, 4] rfl rfl rfl rfl rfl rfl hl.1 rfl (Nat.le_of_ble_eq_true rfl) ⟨Nat.le_of_ble_eq_true rfl, Nat.le_of_ble_eq_true rfl⟩ ⟨Nat.le_of_ble_eq_true rfl, Nat.le_of_ble_eq_true rfl⟩ dX3_goOn_4 (fun r1 u9 H locs hq hW => ?_)
  obtain ⟨-, rfl⟩ := hq
  have hW : WD g A s _ _ [(v9, .inl (g.2.1 1, 72, .inl L)), (v15, .inl (g.2.1 1, 7, .inl gr0)), (gs, .inr (3, [.ref v, .int al, .ref kn])), (kn, .inl (g.2.1 1, 5, .inl kf)), (v, .inr (10, [.int (nI pp), .int (nI lc), .int de, .ref v3, .ref v4, .ref v5, .ref v6, .ref v7, .ref v8, .ref v9, .ref v10, .ref v11, .ref v12, .ref v13, .int gl, .ref v15]))] := hW
  refine lv_if_ne (tgt := 12) (pc := 7) hx hb dX3_goOn_7 rfl (fun c2 => ?_) (fun c2 => ?_)
  · refine lv_iload_n (pc := 12) hx hb dX3_goOn_12 rfl (lv_at hl 1 rfl) ?_
    refine lv_iload_n (pc := 13) hx hb dX3_goOn_13 rfl (lv_at hl 2 rfl) ?_
    refine lv_icmp_ge (tgt := 23) (pc := 14) hx hb dX3_goOn_14 rfl (fun c3 => ?_) (fun c3 => ?_)
    · refine lv_iconst (v := 1) (pc := 23) hx hb dX3_goOn_23 (by decide) ?_
      exact e_z X hQ hr hW (u := [(gs, .inr (3, [.ref v, .int al, .ref kn])), (kn, .inl (g.2.1 1, 5, .inl kf)), (v, .inr (10, [.int (nI pp), .int (nI lc), .int de, .ref v3, .ref v4, .ref v5, .ref v6, .ref v7, .ref v8, .ref v9, .ref v10, .ref v11, .ref v12, .ref v13, .int gl, .ref v15])), (v9, .inl (g.2.1 1, 72, .inl L)), (v15, .inl (g.2.1 1, 7, .inl gr0))]) rfl [2, 3, 4, 0, 1] rfl rfl (⟨_, _, Or.inr rfl, hg0, rfl⟩) ⟨Nat.le_of_ble_eq_true rfl, Nat.le_of_ble_eq_true rfl⟩ dX3_goOn_24
    · refine lv_iload_n (pc := 17) hx hb dX3_goOn_17 rfl (lv_at hl 1 rfl) ?_
      refine lv_bipush (v := 7) (pc := 18) hx hb dX3_goOn_18 (by decide) ?_
      refine lv_icmp_lt (tgt := 25) (pc := 20) hx hb dX3_goOn_20 rfl (fun c4 => absurd c4 (by decide)) (fun c4 => ?_)
      refine lv_iconst (v := 1) (pc := 23) hx hb dX3_goOn_23 (by decide) ?_
      exact e_z X hQ hr hW (u := [(gs, .inr (3, [.ref v, .int al, .ref kn])), (kn, .inl (g.2.1 1, 5, .inl kf)), (v, .inr (10, [.int (nI pp), .int (nI lc), .int de, .ref v3, .ref v4, .ref v5, .ref v6, .ref v7, .ref v8, .ref v9, .ref v10, .ref v11, .ref v12, .ref v13, .int gl, .ref v15])), (v9, .inl (g.2.1 1, 72, .inl L)), (v15, .inl (g.2.1 1, 7, .inl gr0))]) rfl [2, 3, 4, 0, 1] rfl rfl (⟨_, _, Or.inr rfl, hg0, rfl⟩) ⟨Nat.le_of_ble_eq_true rfl, Nat.le_of_ble_eq_true rfl⟩ dX3_goOn_24
  · refine lv_iconst (v := 0) (pc := 10) hx hb dX3_goOn_10 (by decide) ?_
    exact e_z X hQ hr hW (u := [(gs, .inr (3, [.ref v, .int al, .ref kn])), (kn, .inl (g.2.1 1, 5, .inl kf)), (v, .inr (10, [.int (nI pp), .int (nI lc), .int de, .ref v3, .ref v4, .ref v5, .ref v6, .ref v7, .ref v8, .ref v9, .ref v10, .ref v11, .ref v12, .ref v13, .int gl, .ref v15])), (v9, .inl (g.2.1 1, 72, .inl L)), (v15, .inl (g.2.1 1, 7, .inl gr0))]) rfl [2, 3, 4, 0, 1] rfl rfl (⟨_, _, Or.inl rfl, hg0, rfl⟩) ⟨Nat.le_of_ble_eq_true rfl, Nat.le_of_ble_eq_true rfl⟩ dX3_goOn_11

set_option maxHeartbeats 4000000 in
set_option maxRecDepth 100000 in
theorem C_X3_goOn_6 (l : Launch) (g : GG) (gs kn : Nat) (al : Int32) (kf : Nat → Int32) (v v3 v4 v5 v6 v7 v8 v9 v10 v11 v12 v13 v15 : Nat) (de gl : Int32) (lc pp : Nat) (hlc : lc ≤ 12) (hpp : pp ≤ 5) (L gr0 : Nat → Int32) (ca : Nat) (hL : endsIn L lc pp) (hg0 : gb gr0) (hca : ca ≤ 7) : MetI l g yX3_goOn cX3_goOn 8 (some .boolean) 3 0 0 [.ref gs, .int 6, .int (nI ca)] [(gs, .inr (3, [.ref v, .int al, .ref kn])), (kn, .inl (g.2.1 1, 5, .inl kf)), (v, .inr (10, [.int (nI pp), .int (nI lc), .int de, .ref v3, .ref v4, .ref v5, .ref v6, .ref v7, .ref v8, .ref v9, .ref v10, .ref v11, .ref v12, .ref v13, .int gl, .ref v15])), (v9, .inl (g.2.1 1, 72, .inl L)), (v15, .inl (g.2.1 1, 7, .inl gr0))] (fun r u => ∃ kf' gr' : Nat → Int32, (r = 0 ∨ r = 1) ∧ gb gr' ∧ u = [(gs, .inr (3, [.ref v, .int al, .ref kn])), (kn, .inl (g.2.1 1, 5, .inl kf')), (v, .inr (10, [.int (nI pp), .int (nI lc), .int de, .ref v3, .ref v4, .ref v5, .ref v6, .ref v7, .ref v8, .ref v9, .ref v10, .ref v11, .ref v12, .ref v13, .int gl, .ref v15])), (v9, .inl (g.2.1 1, 72, .inl L)), (v15, .inl (g.2.1 1, 7, .inl gr'))]) := by
  refine MetI.of (own := RX3) rfl (by decide) (Nat.le_of_ble_eq_true rfl) ?_
  intro p e s m below meth c A ls args Q hQ X hr hin hW hl
  have hx := X.1
  have hb := X.2.1
  have hl : lv_has ls 8 [(0, .ref gs), (1, .int 6), (2, .int (nI ca))] := hl
  refine lv_aload_n (pc := 0) hx hb dX3_goOn_0 rfl (lv_at hl 0 rfl) ?_
  refine lv_iload_n (pc := 1) hx hb dX3_goOn_1 rfl (lv_at hl 2 rfl) ?_
  refine lv_iload_n (pc := 2) hx hb dX3_goOn_2 rfl (lv_at hl 1 rfl) ?_
  refine lv_isub (pc := 3) hx hb dX3_goOn_3 ?_
  refine c_Vi (pc := 4) (As := [.int ((nI ca) - 6)]) (rest := []) (wr := [(v9, .inl (g.2.1 1, 72, .inl L)), (v15, .inl (g.2.1 1, 7, .inl gr0))]) X hW 0 ciX3 rfl (C_X3_canEndG l g gs kn al kf v v3 v4 v5 v6 v7 v8 v9 v10 v11 v12 v13 v15 de gl lc pp hlc hpp ((nI ca) - 6)) vX3_54 [0, 1, 2] [3, 4] rfl rfl rfl rfl rfl rfl hl.1 rfl (Nat.le_of_ble_eq_true rfl) ⟨Nat.le_of_ble_eq_true rfl, Nat.le_of_ble_eq_true rfl⟩ ⟨Nat.le_of_ble_eq_true rfl, Nat.le_of_ble_eq_true rfl⟩ dX3_goOn_4 (fun r1 u9 H locs hq hW => ?_)
  obtain ⟨-, rfl⟩ := hq
  have hW : WD g A s _ _ [(v9, .inl (g.2.1 1, 72, .inl L)), (v15, .inl (g.2.1 1, 7, .inl gr0)), (gs, .inr (3, [.ref v, .int al, .ref kn])), (kn, .inl (g.2.1 1, 5, .inl kf)), (v, .inr (10, [.int (nI pp), .int (nI lc), .int de, .ref v3, .ref v4, .ref v5, .ref v6, .ref v7, .ref v8, .ref v9, .ref v10, .ref v11, .ref v12, .ref v13, .int gl, .ref v15]))] := hW
  refine lv_if_ne (tgt := 12) (pc := 7) hx hb dX3_goOn_7 rfl (fun c2 => ?_) (fun c2 => ?_)
  · refine lv_iload_n (pc := 12) hx hb dX3_goOn_12 rfl (lv_at hl 1 rfl) ?_
    refine lv_iload_n (pc := 13) hx hb dX3_goOn_13 rfl (lv_at hl 2 rfl) ?_
    refine lv_icmp_ge (tgt := 23) (pc := 14) hx hb dX3_goOn_14 rfl (fun c3 => ?_) (fun c3 => ?_)
    · refine lv_iconst (v := 1) (pc := 23) hx hb dX3_goOn_23 (by decide) ?_
      exact e_z X hQ hr hW (u := [(gs, .inr (3, [.ref v, .int al, .ref kn])), (kn, .inl (g.2.1 1, 5, .inl kf)), (v, .inr (10, [.int (nI pp), .int (nI lc), .int de, .ref v3, .ref v4, .ref v5, .ref v6, .ref v7, .ref v8, .ref v9, .ref v10, .ref v11, .ref v12, .ref v13, .int gl, .ref v15])), (v9, .inl (g.2.1 1, 72, .inl L)), (v15, .inl (g.2.1 1, 7, .inl gr0))]) rfl [2, 3, 4, 0, 1] rfl rfl (⟨_, _, Or.inr rfl, hg0, rfl⟩) ⟨Nat.le_of_ble_eq_true rfl, Nat.le_of_ble_eq_true rfl⟩ dX3_goOn_24
    · refine lv_iload_n (pc := 17) hx hb dX3_goOn_17 rfl (lv_at hl 1 rfl) ?_
      refine lv_bipush (v := 7) (pc := 18) hx hb dX3_goOn_18 (by decide) ?_
      refine lv_icmp_lt (tgt := 25) (pc := 20) hx hb dX3_goOn_20 rfl (fun c4 => ?_) (fun c4 => absurd (by decide) c4)
      refine lv_iconst (v := 0) (pc := 25) hx hb dX3_goOn_25 (by decide) ?_
      refine lv_istore_n (lv' := [(3, .int 0), (0, .ref gs), (1, .int 6), (2, .int (nI ca))]) (pc := 26) hx hb dX3_goOn_26 rfl hl (by decide) rfl (fun ls hl => ?_)
      have hW : WD g A s _ _ [(gs, .inr (3, [.ref v, .int al, .ref kn])), (kn, .inl (g.2.1 1, 5, .inl kf)), (v, .inr (10, [.int (nI pp), .int (nI lc), .int de, .ref v3, .ref v4, .ref v5, .ref v6, .ref v7, .ref v8, .ref v9, .ref v10, .ref v11, .ref v12, .ref v13, .int gl, .ref v15])), (v9, .inl (g.2.1 1, 72, .inl L)), (v15, .inl (g.2.1 1, 7, .inl gr0))] := hW.pick [2, 3, 4, 0, 1] rfl rfl
      have loop1 : ∀ (fu : Nat) (i : Nat) (kk : Nat → Int32) (gr : Nat → Int32), (lc < fu + i) → (i ≤ lc) → (gb gr) → ∀ (H : Heap) (locs : List Loc) (ls : Array Slot), WD g A s H locs [(gs, .inr (3, [.ref v, .int al, .ref kn])), (kn, .inl (g.2.1 1, 5, .inl kk)), (v, .inr (10, [.int (nI pp), .int (nI lc), .int de, .ref v3, .ref v4, .ref v5, .ref v6, .ref v7, .ref v8, .ref v9, .ref v10, .ref v11, .ref v12, .ref v13, .int gl, .ref v15])), (v9, .inl (g.2.1 1, 72, .inl L)), (v15, .inl (g.2.1 1, 7, .inl gr))] → lv_has ls 8 [(0, .ref gs), (1, .int 6), (2, .int (nI ca)), (3, .int (nI i))] → W p l e (RM 3 0 0) s m args below meth c H locs 0 0 Q (F0 m 27 ls []) := by
        intro fu
        induction fu with
        | zero =>
          intro i kk gr hm hi hgr
          exact absurd hm (by omega)
        | succ fu ih1 =>
          intro i kk gr hm hi hgr H locs ls hW hl
          refine lv_iload_n (pc := 27) hx hb dX3_goOn_27 rfl (lv_at hl 3 rfl) ?_
          refine lv_aload_n (pc := 28) hx hb dX3_goOn_28 rfl (lv_at hl 0 rfl) ?_
          refine r_get X hW 0 ciX3 0 rfl (by decide) m_196 rfl rfl dX3_goOn_29 ?_
          refine r_getN X hW 2 ciX10 1 rfl (by decide) m_283 rfl rfl dX3_goOn_32 ?_
          refine lv_icmp_ge (tgt := 168) (pc := 35) hx hb dX3_goOn_35 rfl (fun c5 => ?_) (fun c5 => ?_)
          · refine lv_iconst (v := 0) (pc := 168) hx hb dX3_goOn_168 (by decide) ?_
            exact e_z X hQ hr hW (u := [(gs, .inr (3, [.ref v, .int al, .ref kn])), (kn, .inl (g.2.1 1, 5, .inl kk)), (v, .inr (10, [.int (nI pp), .int (nI lc), .int de, .ref v3, .ref v4, .ref v5, .ref v6, .ref v7, .ref v8, .ref v9, .ref v10, .ref v11, .ref v12, .ref v13, .int gl, .ref v15])), (v9, .inl (g.2.1 1, 72, .inl L)), (v15, .inl (g.2.1 1, 7, .inl gr))]) rfl [0, 1, 2, 3, 4] rfl rfl (⟨_, _, Or.inl rfl, hgr, rfl⟩) ⟨Nat.le_of_ble_eq_true rfl, Nat.le_of_ble_eq_true rfl⟩ dX3_goOn_169
          · have hil : i < lc := ge_f (by omega) (by omega) c5
            obtain ⟨ea, eb, hea, heb, eA, eB⟩ := hL i hil
            refine lv_aload_n (pc := 38) hx hb dX3_goOn_38 rfl (lv_at hl 0 rfl) ?_
            refine r_get X hW 0 ciX3 0 rfl (by decide) m_196 rfl rfl dX3_goOn_39 ?_
            refine lv_iload_n (pc := 42) hx hb dX3_goOn_42 rfl (lv_at hl 3 rfl) ?_
            refine c_Vi (pc := 43) (As := [.int (nI i)]) (rest := []) (wr := [(gs, .inr (3, [.ref v, .int al, .ref kn])), (kn, .inl (g.2.1 1, 5, .inl kk)), (v15, .inl (g.2.1 1, 7, .inl gr))]) X hW 2 ciX10 rfl (C_X10_lineAG l g v v3 v4 v5 v6 v7 v8 v9 v10 v11 v12 v13 v15 (nI pp) (nI lc) de gl L i (by omega)) vX3_61 [2, 3] [0, 1, 4] rfl rfl rfl rfl rfl rfl hl.1 rfl (Nat.le_of_ble_eq_true rfl) ⟨Nat.le_of_ble_eq_true rfl, Nat.le_of_ble_eq_true rfl⟩ ⟨Nat.le_of_ble_eq_true rfl, Nat.le_of_ble_eq_true rfl⟩ dX3_goOn_43 (fun r6 u9 H locs hq hW => ?_)
            obtain ⟨rfl, rfl⟩ := hq
            have hW : WD g A s _ _ [(gs, .inr (3, [.ref v, .int al, .ref kn])), (kn, .inl (g.2.1 1, 5, .inl kk)), (v15, .inl (g.2.1 1, 7, .inl gr)), (v, .inr (10, [.int (nI pp), .int (nI lc), .int de, .ref v3, .ref v4, .ref v5, .ref v6, .ref v7, .ref v8, .ref v9, .ref v10, .ref v11, .ref v12, .ref v13, .int gl, .ref v15])), (v9, .inl (g.2.1 1, 72, .inl L))] := hW
            rw [eA]
            refine lv_istore (lv' := [(4, .int (nI ea)), (0, .ref gs), (1, .int 6), (2, .int (nI ca)), (3, .int (nI i))]) (pc := 46) hx hb dX3_goOn_46 hl (by decide) rfl (fun ls hl => ?_)
            refine lv_aload_n (pc := 48) hx hb dX3_goOn_48 rfl (lv_at hl 1 rfl) ?_
            refine r_get X hW 0 ciX3 0 rfl (by decide) m_196 rfl rfl dX3_goOn_49 ?_
            refine lv_iload_n (pc := 52) hx hb dX3_goOn_52 rfl (lv_at hl 4 rfl) ?_
            refine c_Vi (pc := 53) (As := [.int (nI i)]) (rest := []) (wr := [(gs, .inr (3, [.ref v, .int al, .ref kn])), (kn, .inl (g.2.1 1, 5, .inl kk)), (v15, .inl (g.2.1 1, 7, .inl gr))]) X hW 3 ciX10 rfl (C_X10_lineBG l g v v3 v4 v5 v6 v7 v8 v9 v10 v11 v12 v13 v15 (nI pp) (nI lc) de gl L i (by omega)) vX3_64 [3, 4] [0, 1, 2] rfl rfl rfl rfl rfl rfl hl.1 rfl (Nat.le_of_ble_eq_true rfl) ⟨Nat.le_of_ble_eq_true rfl, Nat.le_of_ble_eq_true rfl⟩ ⟨Nat.le_of_ble_eq_true rfl, Nat.le_of_ble_eq_true rfl⟩ dX3_goOn_53 (fun r7 u9 H locs hq hW => ?_)
            obtain ⟨rfl, rfl⟩ := hq
            have hW : WD g A s _ _ [(gs, .inr (3, [.ref v, .int al, .ref kn])), (kn, .inl (g.2.1 1, 5, .inl kk)), (v15, .inl (g.2.1 1, 7, .inl gr)), (v, .inr (10, [.int (nI pp), .int (nI lc), .int de, .ref v3, .ref v4, .ref v5, .ref v6, .ref v7, .ref v8, .ref v9, .ref v10, .ref v11, .ref v12, .ref v13, .int gl, .ref v15])), (v9, .inl (g.2.1 1, 72, .inl L))] := hW
            rw [eB]
            refine lv_istore (lv' := [(5, .int (nI eb)), (4, .int (nI ea)), (0, .ref gs), (1, .int 6), (2, .int (nI ca)), (3, .int (nI i))]) (pc := 56) hx hb dX3_goOn_56 hl (by decide) rfl (fun ls hl => ?_)
            refine lv_aload_n (pc := 58) hx hb dX3_goOn_58 rfl (lv_at hl 2 rfl) ?_
            refine r_get X hW 0 ciX3 2 rfl (by decide) m_198 rfl rfl dX3_goOn_59 ?_
            refine lv_iload (pc := 62) hx hb dX3_goOn_62 (lv_at hl 1 rfl) ?_
            refine r_iald X hW 1 rfl (vp_in_nI (by omega) (by decide)) dX3_goOn_64 ?_
            refine lv_istore (lv' := [(6, .int (kk (nI ea).toNatClampNeg)), (5, .int (nI eb)), (4, .int (nI ea)), (0, .ref gs), (1, .int 6), (2, .int (nI ca)), (3, .int (nI i))]) (pc := 65) hx hb dX3_goOn_65 hl (by decide) rfl (fun ls hl => ?_)
            refine lv_aload_n (pc := 67) hx hb dX3_goOn_67 rfl (lv_at hl 3 rfl) ?_
            refine r_get X hW 0 ciX3 2 rfl (by decide) m_198 rfl rfl dX3_goOn_68 ?_
            refine lv_iload (pc := 71) hx hb dX3_goOn_71 (lv_at hl 1 rfl) ?_
            refine r_iald X hW 1 rfl (vp_in_nI (by omega) (by decide)) dX3_goOn_73 ?_
            refine lv_istore (lv' := [(7, .int (kk (nI eb).toNatClampNeg)), (6, .int (kk (nI ea).toNatClampNeg)), (5, .int (nI eb)), (4, .int (nI ea)), (0, .ref gs), (1, .int 6), (2, .int (nI ca)), (3, .int (nI i))]) (pc := 74) hx hb dX3_goOn_74 hl (by decide) rfl (fun ls hl => ?_)
            refine lv_aload_n (pc := 76) hx hb dX3_goOn_76 rfl (lv_at hl 4 rfl) ?_
            refine r_get X hW 0 ciX3 0 rfl (by decide) m_196 rfl rfl dX3_goOn_77 ?_
            refine lv_iload_n (pc := 80) hx hb dX3_goOn_80 rfl (lv_at hl 7 rfl) ?_
            refine c_Vi (pc := 81) (As := [.int (nI i)]) (rest := []) (wr := [(gs, .inr (3, [.ref v, .int al, .ref kn])), (kn, .inl (g.2.1 1, 5, .inl kk)), (v15, .inl (g.2.1 1, 7, .inl gr))]) X hW 3 ciX10 rfl (C_X10_isOneWayG l g v v3 v4 v5 v6 v7 v8 v9 v10 v11 v12 v13 v15 (nI pp) (nI lc) de gl L i (by omega)) vX3_67 [3, 4] [0, 1, 2] rfl rfl rfl rfl rfl rfl hl.1 rfl (Nat.le_of_ble_eq_true rfl) ⟨Nat.le_of_ble_eq_true rfl, Nat.le_of_ble_eq_true rfl⟩ ⟨Nat.le_of_ble_eq_true rfl, Nat.le_of_ble_eq_true rfl⟩ dX3_goOn_81 (fun r8 u9 H locs hq hW => ?_)
            obtain ⟨rfl, rfl⟩ := hq
            have hW : WD g A s _ _ [(gs, .inr (3, [.ref v, .int al, .ref kn])), (kn, .inl (g.2.1 1, 5, .inl kk)), (v15, .inl (g.2.1 1, 7, .inl gr)), (v, .inr (10, [.int (nI pp), .int (nI lc), .int de, .ref v3, .ref v4, .ref v5, .ref v6, .ref v7, .ref v8, .ref v9, .ref v10, .ref v11, .ref v12, .ref v13, .int gl, .ref v15])), (v9, .inl (g.2.1 1, 72, .inl L))] := hW
            refine lv_if_ne (tgt := 162) (pc := 84) hx hb dX3_goOn_84 rfl (fun c9 => ?_) (fun c9 => ?_)
            · refine lv_iinc (v := nI (i + 1)) (lv' := [(3, .int (nI (i + 1))), (7, .int (kk (nI eb).toNatClampNeg)), (6, .int (kk (nI ea).toNatClampNeg)), (5, .int (nI eb)), (4, .int (nI ea)), (0, .ref gs), (1, .int 6), (2, .int (nI ca))]) (pc := 162) hx hb dX3_goOn_162 hl (k := 7) rfl ((nI_succ i).symm) (by decide) rfl (fun ls hl => ?_)
              refine lv_goto (tgt := 27) (pc := 165) hx hb dX3_goOn_165 rfl ?_
              have hW : WD g A s _ _ [(gs, .inr (3, [.ref v, .int al, .ref kn])), (kn, .inl (g.2.1 1, 5, .inl kk)), (v, .inr (10, [.int (nI pp), .int (nI lc), .int de, .ref v3, .ref v4, .ref v5, .ref v6, .ref v7, .ref v8, .ref v9, .ref v10, .ref v11, .ref v12, .ref v13, .int gl, .ref v15])), (v9, .inl (g.2.1 1, 72, .inl L)), (v15, .inl (g.2.1 1, 7, .inl gr))] := hW.pick [0, 1, 3, 4, 2] rfl rfl
              exact ih1 (i + 1) kk gr (by omega) (by omega) hgr _ _ _ hW (lv_sub hl [5, 6, 7, 0] rfl)
            · refine lv_iload (pc := 87) hx hb dX3_goOn_87 (lv_at hl 1 rfl) ?_
              refine lv_iload (pc := 89) hx hb dX3_goOn_89 (lv_at hl 0 rfl) ?_
              refine lv_icmp_ne (tgt := 97) (pc := 91) hx hb dX3_goOn_91 rfl (fun c10 => ?_) (fun c10 => ?_)
              · refine lv_aload_n (pc := 97) hx hb dX3_goOn_97 rfl (lv_at hl 4 rfl) ?_
                refine r_get X hW 0 ciX3 2 rfl (by decide) m_198 rfl rfl dX3_goOn_98 ?_
                refine lv_iload (pc := 101) hx hb dX3_goOn_101 (lv_at hl 3 rfl) ?_
                refine lv_iload (pc := 103) hx hb dX3_goOn_103 (lv_at hl 1 rfl) ?_
                refine lv_iload (pc := 105) hx hb dX3_goOn_105 (lv_at hl 0 rfl) ?_
                refine lv_ior (pc := 107) hx hb dX3_goOn_107 ?_
                obtain ⟨f11, ef11⟩ : ∃ fz : Nat → Int32, upd kk (nI ea).toNatClampNeg ((kk (nI ea).toNatClampNeg) ||| (kk (nI eb).toNatClampNeg)) = fz := ⟨_, rfl⟩
                refine r_iast (ws' := [(gs, .inr (3, [.ref v, .int al, .ref kn])), (kn, .inl (g.2.1 1, 5, .inl f11)), (v15, .inl (g.2.1 1, 7, .inl gr)), (v, .inr (10, [.int (nI pp), .int (nI lc), .int de, .ref v3, .ref v4, .ref v5, .ref v6, .ref v7, .ref v8, .ref v9, .ref v10, .ref v11, .ref v12, .ref v13, .int gl, .ref v15])), (v9, .inl (g.2.1 1, 72, .inl L))]) X hW 1 rfl (vp_in_nI (by omega) (by decide)) ef11 rfl dX3_goOn_108 (fun H locs hW => ?_)
                refine lv_aload_n (pc := 109) hx hb dX3_goOn_109 rfl (lv_at hl 4 rfl) ?_
                refine r_get X hW 0 ciX3 2 rfl (by decide) m_198 rfl rfl dX3_goOn_110 ?_
                refine lv_iload (pc := 113) hx hb dX3_goOn_113 (lv_at hl 2 rfl) ?_
                refine lv_iload (pc := 115) hx hb dX3_goOn_115 (lv_at hl 1 rfl) ?_
                refine lv_iload (pc := 117) hx hb dX3_goOn_117 (lv_at hl 0 rfl) ?_
                refine lv_ior (pc := 119) hx hb dX3_goOn_119 ?_
                obtain ⟨f12, ef12⟩ : ∃ fz : Nat → Int32, upd f11 (nI eb).toNatClampNeg ((kk (nI ea).toNatClampNeg) ||| (kk (nI eb).toNatClampNeg)) = fz := ⟨_, rfl⟩
                refine r_iast (ws' := [(gs, .inr (3, [.ref v, .int al, .ref kn])), (kn, .inl (g.2.1 1, 5, .inl f12)), (v15, .inl (g.2.1 1, 7, .inl gr)), (v, .inr (10, [.int (nI pp), .int (nI lc), .int de, .ref v3, .ref v4, .ref v5, .ref v6, .ref v7, .ref v8, .ref v9, .ref v10, .ref v11, .ref v12, .ref v13, .int gl, .ref v15])), (v9, .inl (g.2.1 1, 72, .inl L))]) X hW 1 rfl (vp_in_nI (by omega) (by decide)) ef12 rfl dX3_goOn_120 (fun H locs hW => ?_)
                refine lv_aload_n (pc := 121) hx hb dX3_goOn_121 rfl (lv_at hl 4 rfl) ?_
                refine r_get X hW 0 ciX3 0 rfl (by decide) m_196 rfl rfl dX3_goOn_122 ?_
                refine r_getN X hW 3 ciX10 15 rfl (by decide) m_318 rfl rfl dX3_goOn_125 ?_
                refine lv_iload_n (pc := 128) hx hb dX3_goOn_128 rfl (lv_at hl 5 rfl) ?_
                refine lv_iload_n (pc := 129) hx hb dX3_goOn_129 rfl (lv_at hl 7 rfl) ?_
                obtain ⟨f13, ef13⟩ : ∃ fz : Nat → Int32, upd gr (6 : Int32).toNatClampNeg (nI i) = fz := ⟨_, rfl⟩
                refine r_iast (ws' := [(gs, .inr (3, [.ref v, .int al, .ref kn])), (kn, .inl (g.2.1 1, 5, .inl f12)), (v15, .inl (g.2.1 1, 7, .inl f13)), (v, .inr (10, [.int (nI pp), .int (nI lc), .int de, .ref v3, .ref v4, .ref v5, .ref v6, .ref v7, .ref v8, .ref v9, .ref v10, .ref v11, .ref v12, .ref v13, .int gl, .ref v15])), (v9, .inl (g.2.1 1, 72, .inl L))]) X hW 2 rfl (by unfold vp_in; decide) ef13 rfl dX3_goOn_130 (fun H locs hW => ?_)
                have hg_f13 : gb f13 := by rw [← ef13]; exact gb_upd hgr (by omega)
                refine lv_aload_n (pc := 131) hx hb dX3_goOn_131 rfl (lv_at hl 4 rfl) ?_
                refine lv_iload_n (pc := 132) hx hb dX3_goOn_132 rfl (lv_at hl 5 rfl) ?_
                refine lv_iconst (v := 1) (pc := 133) hx hb dX3_goOn_133 (by decide) ?_
                refine lv_iadd (pc := 134) hx hb dX3_goOn_134 ?_
                refine lv_topi (fun uv14 euv14 => ?_)
                obtain rfl : uv14 = 7 := euv14.trans (by decide +kernel)
                refine lv_iload_n (pc := 135) hx hb dX3_goOn_135 rfl (lv_at hl 6 rfl) ?_
                refine c_Vi (pc := 136) (As := [.int 7, .int (nI ca)]) (rest := []) (wr := []) X hW 0 ciX3 rfl (C_X3_goOn_7 l g gs kn al f12 v v3 v4 v5 v6 v7 v8 v9 v10 v11 v12 v13 v15 de gl lc pp hlc hpp L f13 ca hL hg_f13 hca) vX3_50 [0, 1, 3, 4, 2] [] rfl rfl rfl rfl rfl rfl hl.1 rfl (Nat.le_of_ble_eq_true rfl) ⟨Nat.le_of_ble_eq_true rfl, Nat.le_of_ble_eq_true rfl⟩ ⟨Nat.le_of_ble_eq_true rfl, Nat.le_of_ble_eq_true rfl⟩ dX3_goOn_136 (fun r17 u9 H locs hq hW => ?_)
                obtain ⟨kq15, gq16, -, hgq16, rfl⟩ := hq
                have hW : WD g A s _ _ [(gs, .inr (3, [.ref v, .int al, .ref kn])), (kn, .inl (g.2.1 1, 5, .inl kq15)), (v, .inr (10, [.int (nI pp), .int (nI lc), .int de, .ref v3, .ref v4, .ref v5, .ref v6, .ref v7, .ref v8, .ref v9, .ref v10, .ref v11, .ref v12, .ref v13, .int gl, .ref v15])), (v9, .inl (g.2.1 1, 72, .inl L)), (v15, .inl (g.2.1 1, 7, .inl gq16))] := hW
                refine lv_if_eq (tgt := 144) (pc := 139) hx hb dX3_goOn_139 rfl (fun c18 => ?_) (fun c18 => ?_)
                · refine lv_aload_n (pc := 144) hx hb dX3_goOn_144 rfl (lv_at hl 4 rfl) ?_
                  refine r_get X hW 0 ciX3 2 rfl (by decide) m_198 rfl rfl dX3_goOn_145 ?_
                  refine lv_iload (pc := 148) hx hb dX3_goOn_148 (lv_at hl 3 rfl) ?_
                  refine lv_iload (pc := 150) hx hb dX3_goOn_150 (lv_at hl 1 rfl) ?_
                  obtain ⟨f19, ef19⟩ : ∃ fz : Nat → Int32, upd kq15 (nI ea).toNatClampNeg (kk (nI ea).toNatClampNeg) = fz := ⟨_, rfl⟩
                  refine r_iast (ws' := [(gs, .inr (3, [.ref v, .int al, .ref kn])), (kn, .inl (g.2.1 1, 5, .inl f19)), (v, .inr (10, [.int (nI pp), .int (nI lc), .int de, .ref v3, .ref v4, .ref v5, .ref v6, .ref v7, .ref v8, .ref v9, .ref v10, .ref v11, .ref v12, .ref v13, .int gl, .ref v15])), (v9, .inl (g.2.1 1, 72, .inl L)), (v15, .inl (g.2.1 1, 7, .inl gq16))]) X hW 1 rfl (vp_in_nI (by omega) (by decide)) ef19 rfl dX3_goOn_152 (fun H locs hW => ?_)
                  refine lv_aload_n (pc := 153) hx hb dX3_goOn_153 rfl (lv_at hl 4 rfl) ?_
                  refine r_get X hW 0 ciX3 2 rfl (by decide) m_198 rfl rfl dX3_goOn_154 ?_
                  refine lv_iload (pc := 157) hx hb dX3_goOn_157 (lv_at hl 2 rfl) ?_
                  refine lv_iload (pc := 159) hx hb dX3_goOn_159 (lv_at hl 0 rfl) ?_
                  obtain ⟨f20, ef20⟩ : ∃ fz : Nat → Int32, upd f19 (nI eb).toNatClampNeg (kk (nI eb).toNatClampNeg) = fz := ⟨_, rfl⟩
                  refine r_iast (ws' := [(gs, .inr (3, [.ref v, .int al, .ref kn])), (kn, .inl (g.2.1 1, 5, .inl f20)), (v, .inr (10, [.int (nI pp), .int (nI lc), .int de, .ref v3, .ref v4, .ref v5, .ref v6, .ref v7, .ref v8, .ref v9, .ref v10, .ref v11, .ref v12, .ref v13, .int gl, .ref v15])), (v9, .inl (g.2.1 1, 72, .inl L)), (v15, .inl (g.2.1 1, 7, .inl gq16))]) X hW 1 rfl (vp_in_nI (by omega) (by decide)) ef20 rfl dX3_goOn_161 (fun H locs hW => ?_)
                  refine lv_iinc (v := nI (i + 1)) (lv' := [(3, .int (nI (i + 1))), (7, .int (kk (nI eb).toNatClampNeg)), (6, .int (kk (nI ea).toNatClampNeg)), (5, .int (nI eb)), (4, .int (nI ea)), (0, .ref gs), (1, .int 6), (2, .int (nI ca))]) (pc := 162) hx hb dX3_goOn_162 hl (k := 7) rfl ((nI_succ i).symm) (by decide) rfl (fun ls hl => ?_)
                  refine lv_goto (tgt := 27) (pc := 165) hx hb dX3_goOn_165 rfl ?_
                  have hW : WD g A s _ _ [(gs, .inr (3, [.ref v, .int al, .ref kn])), (kn, .inl (g.2.1 1, 5, .inl f20)), (v, .inr (10, [.int (nI pp), .int (nI lc), .int de, .ref v3, .ref v4, .ref v5, .ref v6, .ref v7, .ref v8, .ref v9, .ref v10, .ref v11, .ref v12, .ref v13, .int gl, .ref v15])), (v9, .inl (g.2.1 1, 72, .inl L)), (v15, .inl (g.2.1 1, 7, .inl gq16))] := hW.pick [0, 1, 2, 3, 4] rfl rfl
                  exact ih1 (i + 1) f20 gq16 (by omega) (by omega) hgq16 _ _ _ hW (lv_sub hl [5, 6, 7, 0] rfl)
                · refine lv_iconst (v := 1) (pc := 142) hx hb dX3_goOn_142 (by decide) ?_
                  exact e_z X hQ hr hW (u := [(gs, .inr (3, [.ref v, .int al, .ref kn])), (kn, .inl (g.2.1 1, 5, .inl kq15)), (v, .inr (10, [.int (nI pp), .int (nI lc), .int de, .ref v3, .ref v4, .ref v5, .ref v6, .ref v7, .ref v8, .ref v9, .ref v10, .ref v11, .ref v12, .ref v13, .int gl, .ref v15])), (v9, .inl (g.2.1 1, 72, .inl L)), (v15, .inl (g.2.1 1, 7, .inl gq16))]) rfl [0, 1, 2, 3, 4] rfl rfl (⟨_, _, Or.inr rfl, hgq16, rfl⟩) ⟨Nat.le_of_ble_eq_true rfl, Nat.le_of_ble_eq_true rfl⟩ dX3_goOn_143
              · refine lv_goto (tgt := 162) (pc := 94) hx hb dX3_goOn_94 rfl ?_
                refine lv_iinc (v := nI (i + 1)) (lv' := [(3, .int (nI (i + 1))), (7, .int (kk (nI eb).toNatClampNeg)), (6, .int (kk (nI ea).toNatClampNeg)), (5, .int (nI eb)), (4, .int (nI ea)), (0, .ref gs), (1, .int 6), (2, .int (nI ca))]) (pc := 162) hx hb dX3_goOn_162 hl (k := 7) rfl ((nI_succ i).symm) (by decide) rfl (fun ls hl => ?_)
                refine lv_goto (tgt := 27) (pc := 165) hx hb dX3_goOn_165 rfl ?_
                have hW : WD g A s _ _ [(gs, .inr (3, [.ref v, .int al, .ref kn])), (kn, .inl (g.2.1 1, 5, .inl kk)), (v, .inr (10, [.int (nI pp), .int (nI lc), .int de, .ref v3, .ref v4, .ref v5, .ref v6, .ref v7, .ref v8, .ref v9, .ref v10, .ref v11, .ref v12, .ref v13, .int gl, .ref v15])), (v9, .inl (g.2.1 1, 72, .inl L)), (v15, .inl (g.2.1 1, 7, .inl gr))] := hW.pick [0, 1, 3, 4, 2] rfl rfl
                exact ih1 (i + 1) kk gr (by omega) (by omega) hgr _ _ _ hW (lv_sub hl [5, 6, 7, 0] rfl)
      exact loop1 (lc + 1) 0 kf gr0 (by omega) (Nat.zero_le _) hg0 _ _ _ hW (lv_sub hl [1, 2, 3, 0] rfl)
  · refine lv_iconst (v := 0) (pc := 10) hx hb dX3_goOn_10 (by decide) ?_
    exact e_z X hQ hr hW (u := [(gs, .inr (3, [.ref v, .int al, .ref kn])), (kn, .inl (g.2.1 1, 5, .inl kf)), (v, .inr (10, [.int (nI pp), .int (nI lc), .int de, .ref v3, .ref v4, .ref v5, .ref v6, .ref v7, .ref v8, .ref v9, .ref v10, .ref v11, .ref v12, .ref v13, .int gl, .ref v15])), (v9, .inl (g.2.1 1, 72, .inl L)), (v15, .inl (g.2.1 1, 7, .inl gr0))]) rfl [2, 3, 4, 0, 1] rfl rfl (⟨_, _, Or.inl rfl, hg0, rfl⟩) ⟨Nat.le_of_ble_eq_true rfl, Nat.le_of_ble_eq_true rfl⟩ dX3_goOn_11

set_option maxHeartbeats 4000000 in
set_option maxRecDepth 100000 in
theorem C_X3_goOn_5 (l : Launch) (g : GG) (gs kn : Nat) (al : Int32) (kf : Nat → Int32) (v v3 v4 v5 v6 v7 v8 v9 v10 v11 v12 v13 v15 : Nat) (de gl : Int32) (lc pp : Nat) (hlc : lc ≤ 12) (hpp : pp ≤ 5) (L gr0 : Nat → Int32) (ca : Nat) (hL : endsIn L lc pp) (hg0 : gb gr0) (hca : ca ≤ 7) : MetI l g yX3_goOn cX3_goOn 8 (some .boolean) 4 0 0 [.ref gs, .int 5, .int (nI ca)] [(gs, .inr (3, [.ref v, .int al, .ref kn])), (kn, .inl (g.2.1 1, 5, .inl kf)), (v, .inr (10, [.int (nI pp), .int (nI lc), .int de, .ref v3, .ref v4, .ref v5, .ref v6, .ref v7, .ref v8, .ref v9, .ref v10, .ref v11, .ref v12, .ref v13, .int gl, .ref v15])), (v9, .inl (g.2.1 1, 72, .inl L)), (v15, .inl (g.2.1 1, 7, .inl gr0))] (fun r u => ∃ kf' gr' : Nat → Int32, (r = 0 ∨ r = 1) ∧ gb gr' ∧ u = [(gs, .inr (3, [.ref v, .int al, .ref kn])), (kn, .inl (g.2.1 1, 5, .inl kf')), (v, .inr (10, [.int (nI pp), .int (nI lc), .int de, .ref v3, .ref v4, .ref v5, .ref v6, .ref v7, .ref v8, .ref v9, .ref v10, .ref v11, .ref v12, .ref v13, .int gl, .ref v15])), (v9, .inl (g.2.1 1, 72, .inl L)), (v15, .inl (g.2.1 1, 7, .inl gr'))]) := by
  refine MetI.of (own := RX3) rfl (by decide) (Nat.le_of_ble_eq_true rfl) ?_
  intro p e s m below meth c A ls args Q hQ X hr hin hW hl
  have hx := X.1
  have hb := X.2.1
  have hl : lv_has ls 8 [(0, .ref gs), (1, .int 5), (2, .int (nI ca))] := hl
  refine lv_aload_n (pc := 0) hx hb dX3_goOn_0 rfl (lv_at hl 0 rfl) ?_
  refine lv_iload_n (pc := 1) hx hb dX3_goOn_1 rfl (lv_at hl 2 rfl) ?_
  refine lv_iload_n (pc := 2) hx hb dX3_goOn_2 rfl (lv_at hl 1 rfl) ?_
  refine lv_isub (pc := 3) hx hb dX3_goOn_3 ?_
  refine c_Vi (pc := 4) (As := [.int ((nI ca) - 5)]) (rest := []) (wr := [(v9, .inl (g.2.1 1, 72, .inl L)), (v15, .inl (g.2.1 1, 7, .inl gr0))]) X hW 0 ciX3 rfl (C_X3_canEndG l g gs kn al kf v v3 v4 v5 v6 v7 v8 v9 v10 v11 v12 v13 v15 de gl lc pp hlc hpp ((nI ca) - 5)) vX3_54 [0, 1, 2] [3, 4] rfl rfl rfl rfl rfl rfl hl.1 rfl (Nat.le_of_ble_eq_true rfl) ⟨Nat.le_of_ble_eq_true rfl, Nat.le_of_ble_eq_true rfl⟩ ⟨Nat.le_of_ble_eq_true rfl, Nat.le_of_ble_eq_true rfl⟩ dX3_goOn_4 (fun r1 u9 H locs hq hW => ?_)
  obtain ⟨-, rfl⟩ := hq
  have hW : WD g A s _ _ [(v9, .inl (g.2.1 1, 72, .inl L)), (v15, .inl (g.2.1 1, 7, .inl gr0)), (gs, .inr (3, [.ref v, .int al, .ref kn])), (kn, .inl (g.2.1 1, 5, .inl kf)), (v, .inr (10, [.int (nI pp), .int (nI lc), .int de, .ref v3, .ref v4, .ref v5, .ref v6, .ref v7, .ref v8, .ref v9, .ref v10, .ref v11, .ref v12, .ref v13, .int gl, .ref v15]))] := hW
  refine lv_if_ne (tgt := 12) (pc := 7) hx hb dX3_goOn_7 rfl (fun c2 => ?_) (fun c2 => ?_)
  · refine lv_iload_n (pc := 12) hx hb dX3_goOn_12 rfl (lv_at hl 1 rfl) ?_
    refine lv_iload_n (pc := 13) hx hb dX3_goOn_13 rfl (lv_at hl 2 rfl) ?_
    refine lv_icmp_ge (tgt := 23) (pc := 14) hx hb dX3_goOn_14 rfl (fun c3 => ?_) (fun c3 => ?_)
    · refine lv_iconst (v := 1) (pc := 23) hx hb dX3_goOn_23 (by decide) ?_
      exact e_z X hQ hr hW (u := [(gs, .inr (3, [.ref v, .int al, .ref kn])), (kn, .inl (g.2.1 1, 5, .inl kf)), (v, .inr (10, [.int (nI pp), .int (nI lc), .int de, .ref v3, .ref v4, .ref v5, .ref v6, .ref v7, .ref v8, .ref v9, .ref v10, .ref v11, .ref v12, .ref v13, .int gl, .ref v15])), (v9, .inl (g.2.1 1, 72, .inl L)), (v15, .inl (g.2.1 1, 7, .inl gr0))]) rfl [2, 3, 4, 0, 1] rfl rfl (⟨_, _, Or.inr rfl, hg0, rfl⟩) ⟨Nat.le_of_ble_eq_true rfl, Nat.le_of_ble_eq_true rfl⟩ dX3_goOn_24
    · refine lv_iload_n (pc := 17) hx hb dX3_goOn_17 rfl (lv_at hl 1 rfl) ?_
      refine lv_bipush (v := 7) (pc := 18) hx hb dX3_goOn_18 (by decide) ?_
      refine lv_icmp_lt (tgt := 25) (pc := 20) hx hb dX3_goOn_20 rfl (fun c4 => ?_) (fun c4 => absurd (by decide) c4)
      refine lv_iconst (v := 0) (pc := 25) hx hb dX3_goOn_25 (by decide) ?_
      refine lv_istore_n (lv' := [(3, .int 0), (0, .ref gs), (1, .int 5), (2, .int (nI ca))]) (pc := 26) hx hb dX3_goOn_26 rfl hl (by decide) rfl (fun ls hl => ?_)
      have hW : WD g A s _ _ [(gs, .inr (3, [.ref v, .int al, .ref kn])), (kn, .inl (g.2.1 1, 5, .inl kf)), (v, .inr (10, [.int (nI pp), .int (nI lc), .int de, .ref v3, .ref v4, .ref v5, .ref v6, .ref v7, .ref v8, .ref v9, .ref v10, .ref v11, .ref v12, .ref v13, .int gl, .ref v15])), (v9, .inl (g.2.1 1, 72, .inl L)), (v15, .inl (g.2.1 1, 7, .inl gr0))] := hW.pick [2, 3, 4, 0, 1] rfl rfl
      have loop1 : ∀ (fu : Nat) (i : Nat) (kk : Nat → Int32) (gr : Nat → Int32), (lc < fu + i) → (i ≤ lc) → (gb gr) → ∀ (H : Heap) (locs : List Loc) (ls : Array Slot), WD g A s H locs [(gs, .inr (3, [.ref v, .int al, .ref kn])), (kn, .inl (g.2.1 1, 5, .inl kk)), (v, .inr (10, [.int (nI pp), .int (nI lc), .int de, .ref v3, .ref v4, .ref v5, .ref v6, .ref v7, .ref v8, .ref v9, .ref v10, .ref v11, .ref v12, .ref v13, .int gl, .ref v15])), (v9, .inl (g.2.1 1, 72, .inl L)), (v15, .inl (g.2.1 1, 7, .inl gr))] → lv_has ls 8 [(0, .ref gs), (1, .int 5), (2, .int (nI ca)), (3, .int (nI i))] → W p l e (RM 4 0 0) s m args below meth c H locs 0 0 Q (F0 m 27 ls []) := by
        intro fu
        induction fu with
        | zero =>
          intro i kk gr hm hi hgr
          exact absurd hm (by omega)
        | succ fu ih1 =>
          intro i kk gr hm hi hgr H locs ls hW hl
          refine lv_iload_n (pc := 27) hx hb dX3_goOn_27 rfl (lv_at hl 3 rfl) ?_
          refine lv_aload_n (pc := 28) hx hb dX3_goOn_28 rfl (lv_at hl 0 rfl) ?_
          refine r_get X hW 0 ciX3 0 rfl (by decide) m_196 rfl rfl dX3_goOn_29 ?_
          refine r_getN X hW 2 ciX10 1 rfl (by decide) m_283 rfl rfl dX3_goOn_32 ?_
          refine lv_icmp_ge (tgt := 168) (pc := 35) hx hb dX3_goOn_35 rfl (fun c5 => ?_) (fun c5 => ?_)
          · refine lv_iconst (v := 0) (pc := 168) hx hb dX3_goOn_168 (by decide) ?_
            exact e_z X hQ hr hW (u := [(gs, .inr (3, [.ref v, .int al, .ref kn])), (kn, .inl (g.2.1 1, 5, .inl kk)), (v, .inr (10, [.int (nI pp), .int (nI lc), .int de, .ref v3, .ref v4, .ref v5, .ref v6, .ref v7, .ref v8, .ref v9, .ref v10, .ref v11, .ref v12, .ref v13, .int gl, .ref v15])), (v9, .inl (g.2.1 1, 72, .inl L)), (v15, .inl (g.2.1 1, 7, .inl gr))]) rfl [0, 1, 2, 3, 4] rfl rfl (⟨_, _, Or.inl rfl, hgr, rfl⟩) ⟨Nat.le_of_ble_eq_true rfl, Nat.le_of_ble_eq_true rfl⟩ dX3_goOn_169
          · have hil : i < lc := ge_f (by omega) (by omega) c5
            obtain ⟨ea, eb, hea, heb, eA, eB⟩ := hL i hil
            refine lv_aload_n (pc := 38) hx hb dX3_goOn_38 rfl (lv_at hl 0 rfl) ?_
            refine r_get X hW 0 ciX3 0 rfl (by decide) m_196 rfl rfl dX3_goOn_39 ?_
            refine lv_iload_n (pc := 42) hx hb dX3_goOn_42 rfl (lv_at hl 3 rfl) ?_
            refine c_Vi (pc := 43) (As := [.int (nI i)]) (rest := []) (wr := [(gs, .inr (3, [.ref v, .int al, .ref kn])), (kn, .inl (g.2.1 1, 5, .inl kk)), (v15, .inl (g.2.1 1, 7, .inl gr))]) X hW 2 ciX10 rfl (C_X10_lineAG l g v v3 v4 v5 v6 v7 v8 v9 v10 v11 v12 v13 v15 (nI pp) (nI lc) de gl L i (by omega)) vX3_61 [2, 3] [0, 1, 4] rfl rfl rfl rfl rfl rfl hl.1 rfl (Nat.le_of_ble_eq_true rfl) ⟨Nat.le_of_ble_eq_true rfl, Nat.le_of_ble_eq_true rfl⟩ ⟨Nat.le_of_ble_eq_true rfl, Nat.le_of_ble_eq_true rfl⟩ dX3_goOn_43 (fun r6 u9 H locs hq hW => ?_)
            obtain ⟨rfl, rfl⟩ := hq
            have hW : WD g A s _ _ [(gs, .inr (3, [.ref v, .int al, .ref kn])), (kn, .inl (g.2.1 1, 5, .inl kk)), (v15, .inl (g.2.1 1, 7, .inl gr)), (v, .inr (10, [.int (nI pp), .int (nI lc), .int de, .ref v3, .ref v4, .ref v5, .ref v6, .ref v7, .ref v8, .ref v9, .ref v10, .ref v11, .ref v12, .ref v13, .int gl, .ref v15])), (v9, .inl (g.2.1 1, 72, .inl L))] := hW
            rw [eA]
            refine lv_istore (lv' := [(4, .int (nI ea)), (0, .ref gs), (1, .int 5), (2, .int (nI ca)), (3, .int (nI i))]) (pc := 46) hx hb dX3_goOn_46 hl (by decide) rfl (fun ls hl => ?_)
            refine lv_aload_n (pc := 48) hx hb dX3_goOn_48 rfl (lv_at hl 1 rfl) ?_
            refine r_get X hW 0 ciX3 0 rfl (by decide) m_196 rfl rfl dX3_goOn_49 ?_
            refine lv_iload_n (pc := 52) hx hb dX3_goOn_52 rfl (lv_at hl 4 rfl) ?_
            refine c_Vi (pc := 53) (As := [.int (nI i)]) (rest := []) (wr := [(gs, .inr (3, [.ref v, .int al, .ref kn])), (kn, .inl (g.2.1 1, 5, .inl kk)), (v15, .inl (g.2.1 1, 7, .inl gr))]) X hW 3 ciX10 rfl (C_X10_lineBG l g v v3 v4 v5 v6 v7 v8 v9 v10 v11 v12 v13 v15 (nI pp) (nI lc) de gl L i (by omega)) vX3_64 [3, 4] [0, 1, 2] rfl rfl rfl rfl rfl rfl hl.1 rfl (Nat.le_of_ble_eq_true rfl) ⟨Nat.le_of_ble_eq_true rfl, Nat.le_of_ble_eq_true rfl⟩ ⟨Nat.le_of_ble_eq_true rfl, Nat.le_of_ble_eq_true rfl⟩ dX3_goOn_53 (fun r7 u9 H locs hq hW => ?_)
            obtain ⟨rfl, rfl⟩ := hq
            have hW : WD g A s _ _ [(gs, .inr (3, [.ref v, .int al, .ref kn])), (kn, .inl (g.2.1 1, 5, .inl kk)), (v15, .inl (g.2.1 1, 7, .inl gr)), (v, .inr (10, [.int (nI pp), .int (nI lc), .int de, .ref v3, .ref v4, .ref v5, .ref v6, .ref v7, .ref v8, .ref v9, .ref v10, .ref v11, .ref v12, .ref v13, .int gl, .ref v15])), (v9, .inl (g.2.1 1, 72, .inl L))] := hW
            rw [eB]
            refine lv_istore (lv' := [(5, .int (nI eb)), (4, .int (nI ea)), (0, .ref gs), (1, .int 5), (2, .int (nI ca)), (3, .int (nI i))]) (pc := 56) hx hb dX3_goOn_56 hl (by decide) rfl (fun ls hl => ?_)
            refine lv_aload_n (pc := 58) hx hb dX3_goOn_58 rfl (lv_at hl 2 rfl) ?_
            refine r_get X hW 0 ciX3 2 rfl (by decide) m_198 rfl rfl dX3_goOn_59 ?_
            refine lv_iload (pc := 62) hx hb dX3_goOn_62 (lv_at hl 1 rfl) ?_
            refine r_iald X hW 1 rfl (vp_in_nI (by omega) (by decide)) dX3_goOn_64 ?_
            refine lv_istore (lv' := [(6, .int (kk (nI ea).toNatClampNeg)), (5, .int (nI eb)), (4, .int (nI ea)), (0, .ref gs), (1, .int 5), (2, .int (nI ca)), (3, .int (nI i))]) (pc := 65) hx hb dX3_goOn_65 hl (by decide) rfl (fun ls hl => ?_)
            refine lv_aload_n (pc := 67) hx hb dX3_goOn_67 rfl (lv_at hl 3 rfl) ?_
            refine r_get X hW 0 ciX3 2 rfl (by decide) m_198 rfl rfl dX3_goOn_68 ?_
            refine lv_iload (pc := 71) hx hb dX3_goOn_71 (lv_at hl 1 rfl) ?_
            refine r_iald X hW 1 rfl (vp_in_nI (by omega) (by decide)) dX3_goOn_73 ?_
            refine lv_istore (lv' := [(7, .int (kk (nI eb).toNatClampNeg)), (6, .int (kk (nI ea).toNatClampNeg)), (5, .int (nI eb)), (4, .int (nI ea)), (0, .ref gs), (1, .int 5), (2, .int (nI ca)), (3, .int (nI i))]) (pc := 74) hx hb dX3_goOn_74 hl (by decide) rfl (fun ls hl => ?_)
            refine lv_aload_n (pc := 76) hx hb dX3_goOn_76 rfl (lv_at hl 4 rfl) ?_
            refine r_get X hW 0 ciX3 0 rfl (by decide) m_196 rfl rfl dX3_goOn_77 ?_
            refine lv_iload_n (pc := 80) hx hb dX3_goOn_80 rfl (lv_at hl 7 rfl) ?_
            refine c_Vi (pc := 81) (As := [.int (nI i)]) (rest := []) (wr := [(gs, .inr (3, [.ref v, .int al, .ref kn])), (kn, .inl (g.2.1 1, 5, .inl kk)), (v15, .inl (g.2.1 1, 7, .inl gr))]) X hW 3 ciX10 rfl (C_X10_isOneWayG l g v v3 v4 v5 v6 v7 v8 v9 v10 v11 v12 v13 v15 (nI pp) (nI lc) de gl L i (by omega)) vX3_67 [3, 4] [0, 1, 2] rfl rfl rfl rfl rfl rfl hl.1 rfl (Nat.le_of_ble_eq_true rfl) ⟨Nat.le_of_ble_eq_true rfl, Nat.le_of_ble_eq_true rfl⟩ ⟨Nat.le_of_ble_eq_true rfl, Nat.le_of_ble_eq_true rfl⟩ dX3_goOn_81 (fun r8 u9 H locs hq hW => ?_)
            obtain ⟨rfl, rfl⟩ := hq
            have hW : WD g A s _ _ [(gs, .inr (3, [.ref v, .int al, .ref kn])), (kn, .inl (g.2.1 1, 5, .inl kk)), (v15, .inl (g.2.1 1, 7, .inl gr)), (v, .inr (10, [.int (nI pp), .int (nI lc), .int de, .ref v3, .ref v4, .ref v5, .ref v6, .ref v7, .ref v8, .ref v9, .ref v10, .ref v11, .ref v12, .ref v13, .int gl, .ref v15])), (v9, .inl (g.2.1 1, 72, .inl L))] := hW
            refine lv_if_ne (tgt := 162) (pc := 84) hx hb dX3_goOn_84 rfl (fun c9 => ?_) (fun c9 => ?_)
            · refine lv_iinc (v := nI (i + 1)) (lv' := [(3, .int (nI (i + 1))), (7, .int (kk (nI eb).toNatClampNeg)), (6, .int (kk (nI ea).toNatClampNeg)), (5, .int (nI eb)), (4, .int (nI ea)), (0, .ref gs), (1, .int 5), (2, .int (nI ca))]) (pc := 162) hx hb dX3_goOn_162 hl (k := 7) rfl ((nI_succ i).symm) (by decide) rfl (fun ls hl => ?_)
              refine lv_goto (tgt := 27) (pc := 165) hx hb dX3_goOn_165 rfl ?_
              have hW : WD g A s _ _ [(gs, .inr (3, [.ref v, .int al, .ref kn])), (kn, .inl (g.2.1 1, 5, .inl kk)), (v, .inr (10, [.int (nI pp), .int (nI lc), .int de, .ref v3, .ref v4, .ref v5, .ref v6, .ref v7, .ref v8, .ref v9, .ref v10, .ref v11, .ref v12, .ref v13, .int gl, .ref v15])), (v9, .inl (g.2.1 1, 72, .inl L)), (v15, .inl (g.2.1 1, 7, .inl gr))] := hW.pick [0, 1, 3, 4, 2] rfl rfl
              exact ih1 (i + 1) kk gr (by omega) (by omega) hgr _ _ _ hW (lv_sub hl [5, 6, 7, 0] rfl)
            · refine lv_iload (pc := 87) hx hb dX3_goOn_87 (lv_at hl 1 rfl) ?_
              refine lv_iload (pc := 89) hx hb dX3_goOn_89 (lv_at hl 0 rfl) ?_
              refine lv_icmp_ne (tgt := 97) (pc := 91) hx hb dX3_goOn_91 rfl (fun c10 => ?_) (fun c10 => ?_)
              · refine lv_aload_n (pc := 97) hx hb dX3_goOn_97 rfl (lv_at hl 4 rfl) ?_
                refine r_get X hW 0 ciX3 2 rfl (by decide) m_198 rfl rfl dX3_goOn_98 ?_
                refine lv_iload (pc := 101) hx hb dX3_goOn_101 (lv_at hl 3 rfl) ?_
                refine lv_iload (pc := 103) hx hb dX3_goOn_103 (lv_at hl 1 rfl) ?_
                refine lv_iload (pc := 105) hx hb dX3_goOn_105 (lv_at hl 0 rfl) ?_
                refine lv_ior (pc := 107) hx hb dX3_goOn_107 ?_
                obtain ⟨f11, ef11⟩ : ∃ fz : Nat → Int32, upd kk (nI ea).toNatClampNeg ((kk (nI ea).toNatClampNeg) ||| (kk (nI eb).toNatClampNeg)) = fz := ⟨_, rfl⟩
                refine r_iast (ws' := [(gs, .inr (3, [.ref v, .int al, .ref kn])), (kn, .inl (g.2.1 1, 5, .inl f11)), (v15, .inl (g.2.1 1, 7, .inl gr)), (v, .inr (10, [.int (nI pp), .int (nI lc), .int de, .ref v3, .ref v4, .ref v5, .ref v6, .ref v7, .ref v8, .ref v9, .ref v10, .ref v11, .ref v12, .ref v13, .int gl, .ref v15])), (v9, .inl (g.2.1 1, 72, .inl L))]) X hW 1 rfl (vp_in_nI (by omega) (by decide)) ef11 rfl dX3_goOn_108 (fun H locs hW => ?_)
                refine lv_aload_n (pc := 109) hx hb dX3_goOn_109 rfl (lv_at hl 4 rfl) ?_
                refine r_get X hW 0 ciX3 2 rfl (by decide) m_198 rfl rfl dX3_goOn_110 ?_
                refine lv_iload (pc := 113) hx hb dX3_goOn_113 (lv_at hl 2 rfl) ?_
                refine lv_iload (pc := 115) hx hb dX3_goOn_115 (lv_at hl 1 rfl) ?_
                refine lv_iload (pc := 117) hx hb dX3_goOn_117 (lv_at hl 0 rfl) ?_
                refine lv_ior (pc := 119) hx hb dX3_goOn_119 ?_
                obtain ⟨f12, ef12⟩ : ∃ fz : Nat → Int32, upd f11 (nI eb).toNatClampNeg ((kk (nI ea).toNatClampNeg) ||| (kk (nI eb).toNatClampNeg)) = fz := ⟨_, rfl⟩
                refine r_iast (ws' := [(gs, .inr (3, [.ref v, .int al, .ref kn])), (kn, .inl (g.2.1 1, 5, .inl f12)), (v15, .inl (g.2.1 1, 7, .inl gr)), (v, .inr (10, [.int (nI pp), .int (nI lc), .int de, .ref v3, .ref v4, .ref v5, .ref v6, .ref v7, .ref v8, .ref v9, .ref v10, .ref v11, .ref v12, .ref v13, .int gl, .ref v15])), (v9, .inl (g.2.1 1, 72, .inl L))]) X hW 1 rfl (vp_in_nI (by omega) (by decide)) ef12 rfl dX3_goOn_120 (fun H locs hW => ?_)
                refine lv_aload_n (pc := 121) hx hb dX3_goOn_121 rfl (lv_at hl 4 rfl) ?_
                refine r_get X hW 0 ciX3 0 rfl (by decide) m_196 rfl rfl dX3_goOn_122 ?_
                refine r_getN X hW 3 ciX10 15 rfl (by decide) m_318 rfl rfl dX3_goOn_125 ?_
                refine lv_iload_n (pc := 128) hx hb dX3_goOn_128 rfl (lv_at hl 5 rfl) ?_
                refine lv_iload_n (pc := 129) hx hb dX3_goOn_129 rfl (lv_at hl 7 rfl) ?_
                obtain ⟨f13, ef13⟩ : ∃ fz : Nat → Int32, upd gr (5 : Int32).toNatClampNeg (nI i) = fz := ⟨_, rfl⟩
                refine r_iast (ws' := [(gs, .inr (3, [.ref v, .int al, .ref kn])), (kn, .inl (g.2.1 1, 5, .inl f12)), (v15, .inl (g.2.1 1, 7, .inl f13)), (v, .inr (10, [.int (nI pp), .int (nI lc), .int de, .ref v3, .ref v4, .ref v5, .ref v6, .ref v7, .ref v8, .ref v9, .ref v10, .ref v11, .ref v12, .ref v13, .int gl, .ref v15])), (v9, .inl (g.2.1 1, 72, .inl L))]) X hW 2 rfl (by unfold vp_in; decide) ef13 rfl dX3_goOn_130 (fun H locs hW => ?_)
                have hg_f13 : gb f13 := by rw [← ef13]; exact gb_upd hgr (by omega)
                refine lv_aload_n (pc := 131) hx hb dX3_goOn_131 rfl (lv_at hl 4 rfl) ?_
                refine lv_iload_n (pc := 132) hx hb dX3_goOn_132 rfl (lv_at hl 5 rfl) ?_
                refine lv_iconst (v := 1) (pc := 133) hx hb dX3_goOn_133 (by decide) ?_
                refine lv_iadd (pc := 134) hx hb dX3_goOn_134 ?_
                refine lv_topi (fun uv14 euv14 => ?_)
                obtain rfl : uv14 = 6 := euv14.trans (by decide +kernel)
                refine lv_iload_n (pc := 135) hx hb dX3_goOn_135 rfl (lv_at hl 6 rfl) ?_
                refine c_Vi (pc := 136) (As := [.int 6, .int (nI ca)]) (rest := []) (wr := []) X hW 0 ciX3 rfl (C_X3_goOn_6 l g gs kn al f12 v v3 v4 v5 v6 v7 v8 v9 v10 v11 v12 v13 v15 de gl lc pp hlc hpp L f13 ca hL hg_f13 hca) vX3_50 [0, 1, 3, 4, 2] [] rfl rfl rfl rfl rfl rfl hl.1 rfl (Nat.le_of_ble_eq_true rfl) ⟨Nat.le_of_ble_eq_true rfl, Nat.le_of_ble_eq_true rfl⟩ ⟨Nat.le_of_ble_eq_true rfl, Nat.le_of_ble_eq_true rfl⟩ dX3_goOn_136 (fun r17 u9 H locs hq hW => ?_)
                obtain ⟨kq15, gq16, -, hgq16, rfl⟩ := hq
                have hW : WD g A s _ _ [(gs, .inr (3, [.ref v, .int al, .ref kn])), (kn, .inl (g.2.1 1, 5, .inl kq15)), (v, .inr (10, [.int (nI pp), .int (nI lc), .int de, .ref v3, .ref v4, .ref v5, .ref v6, .ref v7, .ref v8, .ref v9, .ref v10, .ref v11, .ref v12, .ref v13, .int gl, .ref v15])), (v9, .inl (g.2.1 1, 72, .inl L)), (v15, .inl (g.2.1 1, 7, .inl gq16))] := hW
                refine lv_if_eq (tgt := 144) (pc := 139) hx hb dX3_goOn_139 rfl (fun c18 => ?_) (fun c18 => ?_)
                · refine lv_aload_n (pc := 144) hx hb dX3_goOn_144 rfl (lv_at hl 4 rfl) ?_
                  refine r_get X hW 0 ciX3 2 rfl (by decide) m_198 rfl rfl dX3_goOn_145 ?_
                  refine lv_iload (pc := 148) hx hb dX3_goOn_148 (lv_at hl 3 rfl) ?_
                  refine lv_iload (pc := 150) hx hb dX3_goOn_150 (lv_at hl 1 rfl) ?_
                  obtain ⟨f19, ef19⟩ : ∃ fz : Nat → Int32, upd kq15 (nI ea).toNatClampNeg (kk (nI ea).toNatClampNeg) = fz := ⟨_, rfl⟩
                  refine r_iast (ws' := [(gs, .inr (3, [.ref v, .int al, .ref kn])), (kn, .inl (g.2.1 1, 5, .inl f19)), (v, .inr (10, [.int (nI pp), .int (nI lc), .int de, .ref v3, .ref v4, .ref v5, .ref v6, .ref v7, .ref v8, .ref v9, .ref v10, .ref v11, .ref v12, .ref v13, .int gl, .ref v15])), (v9, .inl (g.2.1 1, 72, .inl L)), (v15, .inl (g.2.1 1, 7, .inl gq16))]) X hW 1 rfl (vp_in_nI (by omega) (by decide)) ef19 rfl dX3_goOn_152 (fun H locs hW => ?_)
                  refine lv_aload_n (pc := 153) hx hb dX3_goOn_153 rfl (lv_at hl 4 rfl) ?_
                  refine r_get X hW 0 ciX3 2 rfl (by decide) m_198 rfl rfl dX3_goOn_154 ?_
                  refine lv_iload (pc := 157) hx hb dX3_goOn_157 (lv_at hl 2 rfl) ?_
                  refine lv_iload (pc := 159) hx hb dX3_goOn_159 (lv_at hl 0 rfl) ?_
                  obtain ⟨f20, ef20⟩ : ∃ fz : Nat → Int32, upd f19 (nI eb).toNatClampNeg (kk (nI eb).toNatClampNeg) = fz := ⟨_, rfl⟩
                  refine r_iast (ws' := [(gs, .inr (3, [.ref v, .int al, .ref kn])), (kn, .inl (g.2.1 1, 5, .inl f20)), (v, .inr (10, [.int (nI pp), .int (nI lc), .int de, .ref v3, .ref v4, .ref v5, .ref v6, .ref v7, .ref v8, .ref v9, .ref v10, .ref v11, .ref v12, .ref v13, .int gl, .ref v15])), (v9, .inl (g.2.1 1, 72, .inl L)), (v15, .inl (g.2.1 1, 7, .inl gq16))]) X hW 1 rfl (vp_in_nI (by omega) (by decide)) ef20 rfl dX3_goOn_161 (fun H locs hW => ?_)
                  refine lv_iinc (v := nI (i + 1)) (lv' := [(3, .int (nI (i + 1))), (7, .int (kk (nI eb).toNatClampNeg)), (6, .int (kk (nI ea).toNatClampNeg)), (5, .int (nI eb)), (4, .int (nI ea)), (0, .ref gs), (1, .int 5), (2, .int (nI ca))]) (pc := 162) hx hb dX3_goOn_162 hl (k := 7) rfl ((nI_succ i).symm) (by decide) rfl (fun ls hl => ?_)
                  refine lv_goto (tgt := 27) (pc := 165) hx hb dX3_goOn_165 rfl ?_
                  have hW : WD g A s _ _ [(gs, .inr (3, [.ref v, .int al, .ref kn])), (kn, .inl (g.2.1 1, 5, .inl f20)), (v, .inr (10, [.int (nI pp), .int (nI lc), .int de, .ref v3, .ref v4, .ref v5, .ref v6, .ref v7, .ref v8, .ref v9, .ref v10, .ref v11, .ref v12, .ref v13, .int gl, .ref v15])), (v9, .inl (g.2.1 1, 72, .inl L)), (v15, .inl (g.2.1 1, 7, .inl gq16))] := hW.pick [0, 1, 2, 3, 4] rfl rfl
                  exact ih1 (i + 1) f20 gq16 (by omega) (by omega) hgq16 _ _ _ hW (lv_sub hl [5, 6, 7, 0] rfl)
                · refine lv_iconst (v := 1) (pc := 142) hx hb dX3_goOn_142 (by decide) ?_
                  exact e_z X hQ hr hW (u := [(gs, .inr (3, [.ref v, .int al, .ref kn])), (kn, .inl (g.2.1 1, 5, .inl kq15)), (v, .inr (10, [.int (nI pp), .int (nI lc), .int de, .ref v3, .ref v4, .ref v5, .ref v6, .ref v7, .ref v8, .ref v9, .ref v10, .ref v11, .ref v12, .ref v13, .int gl, .ref v15])), (v9, .inl (g.2.1 1, 72, .inl L)), (v15, .inl (g.2.1 1, 7, .inl gq16))]) rfl [0, 1, 2, 3, 4] rfl rfl (⟨_, _, Or.inr rfl, hgq16, rfl⟩) ⟨Nat.le_of_ble_eq_true rfl, Nat.le_of_ble_eq_true rfl⟩ dX3_goOn_143
              · refine lv_goto (tgt := 162) (pc := 94) hx hb dX3_goOn_94 rfl ?_
                refine lv_iinc (v := nI (i + 1)) (lv' := [(3, .int (nI (i + 1))), (7, .int (kk (nI eb).toNatClampNeg)), (6, .int (kk (nI ea).toNatClampNeg)), (5, .int (nI eb)), (4, .int (nI ea)), (0, .ref gs), (1, .int 5), (2, .int (nI ca))]) (pc := 162) hx hb dX3_goOn_162 hl (k := 7) rfl ((nI_succ i).symm) (by decide) rfl (fun ls hl => ?_)
                refine lv_goto (tgt := 27) (pc := 165) hx hb dX3_goOn_165 rfl ?_
                have hW : WD g A s _ _ [(gs, .inr (3, [.ref v, .int al, .ref kn])), (kn, .inl (g.2.1 1, 5, .inl kk)), (v, .inr (10, [.int (nI pp), .int (nI lc), .int de, .ref v3, .ref v4, .ref v5, .ref v6, .ref v7, .ref v8, .ref v9, .ref v10, .ref v11, .ref v12, .ref v13, .int gl, .ref v15])), (v9, .inl (g.2.1 1, 72, .inl L)), (v15, .inl (g.2.1 1, 7, .inl gr))] := hW.pick [0, 1, 3, 4, 2] rfl rfl
                exact ih1 (i + 1) kk gr (by omega) (by omega) hgr _ _ _ hW (lv_sub hl [5, 6, 7, 0] rfl)
      exact loop1 (lc + 1) 0 kf gr0 (by omega) (Nat.zero_le _) hg0 _ _ _ hW (lv_sub hl [1, 2, 3, 0] rfl)
  · refine lv_iconst (v := 0) (pc := 10) hx hb dX3_goOn_10 (by decide) ?_
    exact e_z X hQ hr hW (u := [(gs, .inr (3, [.ref v, .int al, .ref kn])), (kn, .inl (g.2.1 1, 5, .inl kf)), (v, .inr (10, [.int (nI pp), .int (nI lc), .int de, .ref v3, .ref v4, .ref v5, .ref v6, .ref v7, .ref v8, .ref v9, .ref v10, .ref v11, .ref v12, .ref v13, .int gl, .ref v15])), (v9, .inl (g.2.1 1, 72, .inl L)), (v15, .inl (g.2.1 1, 7, .inl gr0))]) rfl [2, 3, 4, 0, 1] rfl rfl (⟨_, _, Or.inl rfl, hg0, rfl⟩) ⟨Nat.le_of_ble_eq_true rfl, Nat.le_of_ble_eq_true rfl⟩ dX3_goOn_11

set_option maxHeartbeats 4000000 in
set_option maxRecDepth 100000 in
theorem C_X3_goOn_4 (l : Launch) (g : GG) (gs kn : Nat) (al : Int32) (kf : Nat → Int32) (v v3 v4 v5 v6 v7 v8 v9 v10 v11 v12 v13 v15 : Nat) (de gl : Int32) (lc pp : Nat) (hlc : lc ≤ 12) (hpp : pp ≤ 5) (L gr0 : Nat → Int32) (ca : Nat) (hL : endsIn L lc pp) (hg0 : gb gr0) (hca : ca ≤ 7) : MetI l g yX3_goOn cX3_goOn 8 (some .boolean) 5 0 0 [.ref gs, .int 4, .int (nI ca)] [(gs, .inr (3, [.ref v, .int al, .ref kn])), (kn, .inl (g.2.1 1, 5, .inl kf)), (v, .inr (10, [.int (nI pp), .int (nI lc), .int de, .ref v3, .ref v4, .ref v5, .ref v6, .ref v7, .ref v8, .ref v9, .ref v10, .ref v11, .ref v12, .ref v13, .int gl, .ref v15])), (v9, .inl (g.2.1 1, 72, .inl L)), (v15, .inl (g.2.1 1, 7, .inl gr0))] (fun r u => ∃ kf' gr' : Nat → Int32, (r = 0 ∨ r = 1) ∧ gb gr' ∧ u = [(gs, .inr (3, [.ref v, .int al, .ref kn])), (kn, .inl (g.2.1 1, 5, .inl kf')), (v, .inr (10, [.int (nI pp), .int (nI lc), .int de, .ref v3, .ref v4, .ref v5, .ref v6, .ref v7, .ref v8, .ref v9, .ref v10, .ref v11, .ref v12, .ref v13, .int gl, .ref v15])), (v9, .inl (g.2.1 1, 72, .inl L)), (v15, .inl (g.2.1 1, 7, .inl gr'))]) := by
  refine MetI.of (own := RX3) rfl (by decide) (Nat.le_of_ble_eq_true rfl) ?_
  intro p e s m below meth c A ls args Q hQ X hr hin hW hl
  have hx := X.1
  have hb := X.2.1
  have hl : lv_has ls 8 [(0, .ref gs), (1, .int 4), (2, .int (nI ca))] := hl
  refine lv_aload_n (pc := 0) hx hb dX3_goOn_0 rfl (lv_at hl 0 rfl) ?_
  refine lv_iload_n (pc := 1) hx hb dX3_goOn_1 rfl (lv_at hl 2 rfl) ?_
  refine lv_iload_n (pc := 2) hx hb dX3_goOn_2 rfl (lv_at hl 1 rfl) ?_
  refine lv_isub (pc := 3) hx hb dX3_goOn_3 ?_
  refine c_Vi (pc := 4) (As := [.int ((nI ca) - 4)]) (rest := []) (wr := [(v9, .inl (g.2.1 1, 72, .inl L)), (v15, .inl (g.2.1 1, 7, .inl gr0))]) X hW 0 ciX3 rfl (C_X3_canEndG l g gs kn al kf v v3 v4 v5 v6 v7 v8 v9 v10 v11 v12 v13 v15 de gl lc pp hlc hpp ((nI ca) - 4)) vX3_54 [0, 1, 2] [3, 4] rfl rfl rfl rfl rfl rfl hl.1 rfl (Nat.le_of_ble_eq_true rfl) ⟨Nat.le_of_ble_eq_true rfl, Nat.le_of_ble_eq_true rfl⟩ ⟨Nat.le_of_ble_eq_true rfl, Nat.le_of_ble_eq_true rfl⟩ dX3_goOn_4 (fun r1 u9 H locs hq hW => ?_)
  obtain ⟨-, rfl⟩ := hq
  have hW : WD g A s _ _ [(v9, .inl (g.2.1 1, 72, .inl L)), (v15, .inl (g.2.1 1, 7, .inl gr0)), (gs, .inr (3, [.ref v, .int al, .ref kn])), (kn, .inl (g.2.1 1, 5, .inl kf)), (v, .inr (10, [.int (nI pp), .int (nI lc), .int de, .ref v3, .ref v4, .ref v5, .ref v6, .ref v7, .ref v8, .ref v9, .ref v10, .ref v11, .ref v12, .ref v13, .int gl, .ref v15]))] := hW
  refine lv_if_ne (tgt := 12) (pc := 7) hx hb dX3_goOn_7 rfl (fun c2 => ?_) (fun c2 => ?_)
  · refine lv_iload_n (pc := 12) hx hb dX3_goOn_12 rfl (lv_at hl 1 rfl) ?_
    refine lv_iload_n (pc := 13) hx hb dX3_goOn_13 rfl (lv_at hl 2 rfl) ?_
    refine lv_icmp_ge (tgt := 23) (pc := 14) hx hb dX3_goOn_14 rfl (fun c3 => ?_) (fun c3 => ?_)
    · refine lv_iconst (v := 1) (pc := 23) hx hb dX3_goOn_23 (by decide) ?_
      exact e_z X hQ hr hW (u := [(gs, .inr (3, [.ref v, .int al, .ref kn])), (kn, .inl (g.2.1 1, 5, .inl kf)), (v, .inr (10, [.int (nI pp), .int (nI lc), .int de, .ref v3, .ref v4, .ref v5, .ref v6, .ref v7, .ref v8, .ref v9, .ref v10, .ref v11, .ref v12, .ref v13, .int gl, .ref v15])), (v9, .inl (g.2.1 1, 72, .inl L)), (v15, .inl (g.2.1 1, 7, .inl gr0))]) rfl [2, 3, 4, 0, 1] rfl rfl (⟨_, _, Or.inr rfl, hg0, rfl⟩) ⟨Nat.le_of_ble_eq_true rfl, Nat.le_of_ble_eq_true rfl⟩ dX3_goOn_24
    · refine lv_iload_n (pc := 17) hx hb dX3_goOn_17 rfl (lv_at hl 1 rfl) ?_
      refine lv_bipush (v := 7) (pc := 18) hx hb dX3_goOn_18 (by decide) ?_
      refine lv_icmp_lt (tgt := 25) (pc := 20) hx hb dX3_goOn_20 rfl (fun c4 => ?_) (fun c4 => absurd (by decide) c4)
      refine lv_iconst (v := 0) (pc := 25) hx hb dX3_goOn_25 (by decide) ?_
      refine lv_istore_n (lv' := [(3, .int 0), (0, .ref gs), (1, .int 4), (2, .int (nI ca))]) (pc := 26) hx hb dX3_goOn_26 rfl hl (by decide) rfl (fun ls hl => ?_)
      have hW : WD g A s _ _ [(gs, .inr (3, [.ref v, .int al, .ref kn])), (kn, .inl (g.2.1 1, 5, .inl kf)), (v, .inr (10, [.int (nI pp), .int (nI lc), .int de, .ref v3, .ref v4, .ref v5, .ref v6, .ref v7, .ref v8, .ref v9, .ref v10, .ref v11, .ref v12, .ref v13, .int gl, .ref v15])), (v9, .inl (g.2.1 1, 72, .inl L)), (v15, .inl (g.2.1 1, 7, .inl gr0))] := hW.pick [2, 3, 4, 0, 1] rfl rfl
      have loop1 : ∀ (fu : Nat) (i : Nat) (kk : Nat → Int32) (gr : Nat → Int32), (lc < fu + i) → (i ≤ lc) → (gb gr) → ∀ (H : Heap) (locs : List Loc) (ls : Array Slot), WD g A s H locs [(gs, .inr (3, [.ref v, .int al, .ref kn])), (kn, .inl (g.2.1 1, 5, .inl kk)), (v, .inr (10, [.int (nI pp), .int (nI lc), .int de, .ref v3, .ref v4, .ref v5, .ref v6, .ref v7, .ref v8, .ref v9, .ref v10, .ref v11, .ref v12, .ref v13, .int gl, .ref v15])), (v9, .inl (g.2.1 1, 72, .inl L)), (v15, .inl (g.2.1 1, 7, .inl gr))] → lv_has ls 8 [(0, .ref gs), (1, .int 4), (2, .int (nI ca)), (3, .int (nI i))] → W p l e (RM 5 0 0) s m args below meth c H locs 0 0 Q (F0 m 27 ls []) := by
        intro fu
        induction fu with
        | zero =>
          intro i kk gr hm hi hgr
          exact absurd hm (by omega)
        | succ fu ih1 =>
          intro i kk gr hm hi hgr H locs ls hW hl
          refine lv_iload_n (pc := 27) hx hb dX3_goOn_27 rfl (lv_at hl 3 rfl) ?_
          refine lv_aload_n (pc := 28) hx hb dX3_goOn_28 rfl (lv_at hl 0 rfl) ?_
          refine r_get X hW 0 ciX3 0 rfl (by decide) m_196 rfl rfl dX3_goOn_29 ?_
          refine r_getN X hW 2 ciX10 1 rfl (by decide) m_283 rfl rfl dX3_goOn_32 ?_
          refine lv_icmp_ge (tgt := 168) (pc := 35) hx hb dX3_goOn_35 rfl (fun c5 => ?_) (fun c5 => ?_)
          · refine lv_iconst (v := 0) (pc := 168) hx hb dX3_goOn_168 (by decide) ?_
            exact e_z X hQ hr hW (u := [(gs, .inr (3, [.ref v, .int al, .ref kn])), (kn, .inl (g.2.1 1, 5, .inl kk)), (v, .inr (10, [.int (nI pp), .int (nI lc), .int de, .ref v3, .ref v4, .ref v5, .ref v6, .ref v7, .ref v8, .ref v9, .ref v10, .ref v11, .ref v12, .ref v13, .int gl, .ref v15])), (v9, .inl (g.2.1 1, 72, .inl L)), (v15, .inl (g.2.1 1, 7, .inl gr))]) rfl [0, 1, 2, 3, 4] rfl rfl (⟨_, _, Or.inl rfl, hgr, rfl⟩) ⟨Nat.le_of_ble_eq_true rfl, Nat.le_of_ble_eq_true rfl⟩ dX3_goOn_169
          · have hil : i < lc := ge_f (by omega) (by omega) c5
            obtain ⟨ea, eb, hea, heb, eA, eB⟩ := hL i hil
            refine lv_aload_n (pc := 38) hx hb dX3_goOn_38 rfl (lv_at hl 0 rfl) ?_
            refine r_get X hW 0 ciX3 0 rfl (by decide) m_196 rfl rfl dX3_goOn_39 ?_
            refine lv_iload_n (pc := 42) hx hb dX3_goOn_42 rfl (lv_at hl 3 rfl) ?_
            refine c_Vi (pc := 43) (As := [.int (nI i)]) (rest := []) (wr := [(gs, .inr (3, [.ref v, .int al, .ref kn])), (kn, .inl (g.2.1 1, 5, .inl kk)), (v15, .inl (g.2.1 1, 7, .inl gr))]) X hW 2 ciX10 rfl (C_X10_lineAG l g v v3 v4 v5 v6 v7 v8 v9 v10 v11 v12 v13 v15 (nI pp) (nI lc) de gl L i (by omega)) vX3_61 [2, 3] [0, 1, 4] rfl rfl rfl rfl rfl rfl hl.1 rfl (Nat.le_of_ble_eq_true rfl) ⟨Nat.le_of_ble_eq_true rfl, Nat.le_of_ble_eq_true rfl⟩ ⟨Nat.le_of_ble_eq_true rfl, Nat.le_of_ble_eq_true rfl⟩ dX3_goOn_43 (fun r6 u9 H locs hq hW => ?_)
            obtain ⟨rfl, rfl⟩ := hq
            have hW : WD g A s _ _ [(gs, .inr (3, [.ref v, .int al, .ref kn])), (kn, .inl (g.2.1 1, 5, .inl kk)), (v15, .inl (g.2.1 1, 7, .inl gr)), (v, .inr (10, [.int (nI pp), .int (nI lc), .int de, .ref v3, .ref v4, .ref v5, .ref v6, .ref v7, .ref v8, .ref v9, .ref v10, .ref v11, .ref v12, .ref v13, .int gl, .ref v15])), (v9, .inl (g.2.1 1, 72, .inl L))] := hW
            rw [eA]
            refine lv_istore (lv' := [(4, .int (nI ea)), (0, .ref gs), (1, .int 4), (2, .int (nI ca)), (3, .int (nI i))]) (pc := 46) hx hb dX3_goOn_46 hl (by decide) rfl (fun ls hl => ?_)
            refine lv_aload_n (pc := 48) hx hb dX3_goOn_48 rfl (lv_at hl 1 rfl) ?_
            refine r_get X hW 0 ciX3 0 rfl (by decide) m_196 rfl rfl dX3_goOn_49 ?_
            refine lv_iload_n (pc := 52) hx hb dX3_goOn_52 rfl (lv_at hl 4 rfl) ?_
            refine c_Vi (pc := 53) (As := [.int (nI i)]) (rest := []) (wr := [(gs, .inr (3, [.ref v, .int al, .ref kn])), (kn, .inl (g.2.1 1, 5, .inl kk)), (v15, .inl (g.2.1 1, 7, .inl gr))]) X hW 3 ciX10 rfl (C_X10_lineBG l g v v3 v4 v5 v6 v7 v8 v9 v10 v11 v12 v13 v15 (nI pp) (nI lc) de gl L i (by omega)) vX3_64 [3, 4] [0, 1, 2] rfl rfl rfl rfl rfl rfl hl.1 rfl (Nat.le_of_ble_eq_true rfl) ⟨Nat.le_of_ble_eq_true rfl, Nat.le_of_ble_eq_true rfl⟩ ⟨Nat.le_of_ble_eq_true rfl, Nat.le_of_ble_eq_true rfl⟩ dX3_goOn_53 (fun r7 u9 H locs hq hW => ?_)
            obtain ⟨rfl, rfl⟩ := hq
            have hW : WD g A s _ _ [(gs, .inr (3, [.ref v, .int al, .ref kn])), (kn, .inl (g.2.1 1, 5, .inl kk)), (v15, .inl (g.2.1 1, 7, .inl gr)), (v, .inr (10, [.int (nI pp), .int (nI lc), .int de, .ref v3, .ref v4, .ref v5, .ref v6, .ref v7, .ref v8, .ref v9, .ref v10, .ref v11, .ref v12, .ref v13, .int gl, .ref v15])), (v9, .inl (g.2.1 1, 72, .inl L))] := hW
            rw [eB]
            refine lv_istore (lv' := [(5, .int (nI eb)), (4, .int (nI ea)), (0, .ref gs), (1, .int 4), (2, .int (nI ca)), (3, .int (nI i))]) (pc := 56) hx hb dX3_goOn_56 hl (by decide) rfl (fun ls hl => ?_)
            refine lv_aload_n (pc := 58) hx hb dX3_goOn_58 rfl (lv_at hl 2 rfl) ?_
            refine r_get X hW 0 ciX3 2 rfl (by decide) m_198 rfl rfl dX3_goOn_59 ?_
            refine lv_iload (pc := 62) hx hb dX3_goOn_62 (lv_at hl 1 rfl) ?_
            refine r_iald X hW 1 rfl (vp_in_nI (by omega) (by decide)) dX3_goOn_64 ?_
            refine lv_istore (lv' := [(6, .int (kk (nI ea).toNatClampNeg)), (5, .int (nI eb)), (4, .int (nI ea)), (0, .ref gs), (1, .int 4), (2, .int (nI ca)), (3, .int (nI i))]) (pc := 65) hx hb dX3_goOn_65 hl (by decide) rfl (fun ls hl => ?_)
            refine lv_aload_n (pc := 67) hx hb dX3_goOn_67 rfl (lv_at hl 3 rfl) ?_
            refine r_get X hW 0 ciX3 2 rfl (by decide) m_198 rfl rfl dX3_goOn_68 ?_
            refine lv_iload (pc := 71) hx hb dX3_goOn_71 (lv_at hl 1 rfl) ?_
            refine r_iald X hW 1 rfl (vp_in_nI (by omega) (by decide)) dX3_goOn_73 ?_
            refine lv_istore (lv' := [(7, .int (kk (nI eb).toNatClampNeg)), (6, .int (kk (nI ea).toNatClampNeg)), (5, .int (nI eb)), (4, .int (nI ea)), (0, .ref gs), (1, .int 4), (2, .int (nI ca)), (3, .int (nI i))]) (pc := 74) hx hb dX3_goOn_74 hl (by decide) rfl (fun ls hl => ?_)
            refine lv_aload_n (pc := 76) hx hb dX3_goOn_76 rfl (lv_at hl 4 rfl) ?_
            refine r_get X hW 0 ciX3 0 rfl (by decide) m_196 rfl rfl dX3_goOn_77 ?_
            refine lv_iload_n (pc := 80) hx hb dX3_goOn_80 rfl (lv_at hl 7 rfl) ?_
            refine c_Vi (pc := 81) (As := [.int (nI i)]) (rest := []) (wr := [(gs, .inr (3, [.ref v, .int al, .ref kn])), (kn, .inl (g.2.1 1, 5, .inl kk)), (v15, .inl (g.2.1 1, 7, .inl gr))]) X hW 3 ciX10 rfl (C_X10_isOneWayG l g v v3 v4 v5 v6 v7 v8 v9 v10 v11 v12 v13 v15 (nI pp) (nI lc) de gl L i (by omega)) vX3_67 [3, 4] [0, 1, 2] rfl rfl rfl rfl rfl rfl hl.1 rfl (Nat.le_of_ble_eq_true rfl) ⟨Nat.le_of_ble_eq_true rfl, Nat.le_of_ble_eq_true rfl⟩ ⟨Nat.le_of_ble_eq_true rfl, Nat.le_of_ble_eq_true rfl⟩ dX3_goOn_81 (fun r8 u9 H locs hq hW => ?_)
            obtain ⟨rfl, rfl⟩ := hq
            have hW : WD g A s _ _ [(gs, .inr (3, [.ref v, .int al, .ref kn])), (kn, .inl (g.2.1 1, 5, .inl kk)), (v15, .inl (g.2.1 1, 7, .inl gr)), (v, .inr (10, [.int (nI pp), .int (nI lc), .int de, .ref v3, .ref v4, .ref v5, .ref v6, .ref v7, .ref v8, .ref v9, .ref v10, .ref v11, .ref v12, .ref v13, .int gl, .ref v15])), (v9, .inl (g.2.1 1, 72, .inl L))] := hW
            refine lv_if_ne (tgt := 162) (pc := 84) hx hb dX3_goOn_84 rfl (fun c9 => ?_) (fun c9 => ?_)
            · refine lv_iinc (v := nI (i + 1)) (lv' := [(3, .int (nI (i + 1))), (7, .int (kk (nI eb).toNatClampNeg)), (6, .int (kk (nI ea).toNatClampNeg)), (5, .int (nI eb)), (4, .int (nI ea)), (0, .ref gs), (1, .int 4), (2, .int (nI ca))]) (pc := 162) hx hb dX3_goOn_162 hl (k := 7) rfl ((nI_succ i).symm) (by decide) rfl (fun ls hl => ?_)
              refine lv_goto (tgt := 27) (pc := 165) hx hb dX3_goOn_165 rfl ?_
              have hW : WD g A s _ _ [(gs, .inr (3, [.ref v, .int al, .ref kn])), (kn, .inl (g.2.1 1, 5, .inl kk)), (v, .inr (10, [.int (nI pp), .int (nI lc), .int de, .ref v3, .ref v4, .ref v5, .ref v6, .ref v7, .ref v8, .ref v9, .ref v10, .ref v11, .ref v12, .ref v13, .int gl, .ref v15])), (v9, .inl (g.2.1 1, 72, .inl L)), (v15, .inl (g.2.1 1, 7, .inl gr))] := hW.pick [0, 1, 3, 4, 2] rfl rfl
              exact ih1 (i + 1) kk gr (by omega) (by omega) hgr _ _ _ hW (lv_sub hl [5, 6, 7, 0] rfl)
            · refine lv_iload (pc := 87) hx hb dX3_goOn_87 (lv_at hl 1 rfl) ?_
              refine lv_iload (pc := 89) hx hb dX3_goOn_89 (lv_at hl 0 rfl) ?_
              refine lv_icmp_ne (tgt := 97) (pc := 91) hx hb dX3_goOn_91 rfl (fun c10 => ?_) (fun c10 => ?_)
              · refine lv_aload_n (pc := 97) hx hb dX3_goOn_97 rfl (lv_at hl 4 rfl) ?_
                refine r_get X hW 0 ciX3 2 rfl (by decide) m_198 rfl rfl dX3_goOn_98 ?_
                refine lv_iload (pc := 101) hx hb dX3_goOn_101 (lv_at hl 3 rfl) ?_
                refine lv_iload (pc := 103) hx hb dX3_goOn_103 (lv_at hl 1 rfl) ?_
                refine lv_iload (pc := 105) hx hb dX3_goOn_105 (lv_at hl 0 rfl) ?_
                refine lv_ior (pc := 107) hx hb dX3_goOn_107 ?_
                obtain ⟨f11, ef11⟩ : ∃ fz : Nat → Int32, upd kk (nI ea).toNatClampNeg ((kk (nI ea).toNatClampNeg) ||| (kk (nI eb).toNatClampNeg)) = fz := ⟨_, rfl⟩
                refine r_iast (ws' := [(gs, .inr (3, [.ref v, .int al, .ref kn])), (kn, .inl (g.2.1 1, 5, .inl f11)), (v15, .inl (g.2.1 1, 7, .inl gr)), (v, .inr (10, [.int (nI pp), .int (nI lc), .int de, .ref v3, .ref v4, .ref v5, .ref v6, .ref v7, .ref v8, .ref v9, .ref v10, .ref v11, .ref v12, .ref v13, .int gl, .ref v15])), (v9, .inl (g.2.1 1, 72, .inl L))]) X hW 1 rfl (vp_in_nI (by omega) (by decide)) ef11 rfl dX3_goOn_108 (fun H locs hW => ?_)
                refine lv_aload_n (pc := 109) hx hb dX3_goOn_109 rfl (lv_at hl 4 rfl) ?_
                refine r_get X hW 0 ciX3 2 rfl (by decide) m_198 rfl rfl dX3_goOn_110 ?_
                refine lv_iload (pc := 113) hx hb dX3_goOn_113 (lv_at hl 2 rfl) ?_
                refine lv_iload (pc := 115) hx hb dX3_goOn_115 (lv_at hl 1 rfl) ?_
                refine lv_iload (pc := 117) hx hb dX3_goOn_117 (lv_at hl 0 rfl) ?_
                refine lv_ior (pc := 119) hx hb dX3_goOn_119 ?_
                obtain ⟨f12, ef12⟩ : ∃ fz : Nat → Int32, upd f11 (nI eb).toNatClampNeg ((kk (nI ea).toNatClampNeg) ||| (kk (nI eb).toNatClampNeg)) = fz := ⟨_, rfl⟩
                refine r_iast (ws' := [(gs, .inr (3, [.ref v, .int al, .ref kn])), (kn, .inl (g.2.1 1, 5, .inl f12)), (v15, .inl (g.2.1 1, 7, .inl gr)), (v, .inr (10, [.int (nI pp), .int (nI lc), .int de, .ref v3, .ref v4, .ref v5, .ref v6, .ref v7, .ref v8, .ref v9, .ref v10, .ref v11, .ref v12, .ref v13, .int gl, .ref v15])), (v9, .inl (g.2.1 1, 72, .inl L))]) X hW 1 rfl (vp_in_nI (by omega) (by decide)) ef12 rfl dX3_goOn_120 (fun H locs hW => ?_)
                refine lv_aload_n (pc := 121) hx hb dX3_goOn_121 rfl (lv_at hl 4 rfl) ?_
                refine r_get X hW 0 ciX3 0 rfl (by decide) m_196 rfl rfl dX3_goOn_122 ?_
                refine r_getN X hW 3 ciX10 15 rfl (by decide) m_318 rfl rfl dX3_goOn_125 ?_
                refine lv_iload_n (pc := 128) hx hb dX3_goOn_128 rfl (lv_at hl 5 rfl) ?_
                refine lv_iload_n (pc := 129) hx hb dX3_goOn_129 rfl (lv_at hl 7 rfl) ?_
                obtain ⟨f13, ef13⟩ : ∃ fz : Nat → Int32, upd gr (4 : Int32).toNatClampNeg (nI i) = fz := ⟨_, rfl⟩
                refine r_iast (ws' := [(gs, .inr (3, [.ref v, .int al, .ref kn])), (kn, .inl (g.2.1 1, 5, .inl f12)), (v15, .inl (g.2.1 1, 7, .inl f13)), (v, .inr (10, [.int (nI pp), .int (nI lc), .int de, .ref v3, .ref v4, .ref v5, .ref v6, .ref v7, .ref v8, .ref v9, .ref v10, .ref v11, .ref v12, .ref v13, .int gl, .ref v15])), (v9, .inl (g.2.1 1, 72, .inl L))]) X hW 2 rfl (by unfold vp_in; decide) ef13 rfl dX3_goOn_130 (fun H locs hW => ?_)
                have hg_f13 : gb f13 := by rw [← ef13]; exact gb_upd hgr (by omega)
                refine lv_aload_n (pc := 131) hx hb dX3_goOn_131 rfl (lv_at hl 4 rfl) ?_
                refine lv_iload_n (pc := 132) hx hb dX3_goOn_132 rfl (lv_at hl 5 rfl) ?_
                refine lv_iconst (v := 1) (pc := 133) hx hb dX3_goOn_133 (by decide) ?_
                refine lv_iadd (pc := 134) hx hb dX3_goOn_134 ?_
                refine lv_topi (fun uv14 euv14 => ?_)
                obtain rfl : uv14 = 5 := euv14.trans (by decide +kernel)
                refine lv_iload_n (pc := 135) hx hb dX3_goOn_135 rfl (lv_at hl 6 rfl) ?_
                refine c_Vi (pc := 136) (As := [.int 5, .int (nI ca)]) (rest := []) (wr := []) X hW 0 ciX3 rfl (C_X3_goOn_5 l g gs kn al f12 v v3 v4 v5 v6 v7 v8 v9 v10 v11 v12 v13 v15 de gl lc pp hlc hpp L f13 ca hL hg_f13 hca) vX3_50 [0, 1, 3, 4, 2] [] rfl rfl rfl rfl rfl rfl hl.1 rfl (Nat.le_of_ble_eq_true rfl) ⟨Nat.le_of_ble_eq_true rfl, Nat.le_of_ble_eq_true rfl⟩ ⟨Nat.le_of_ble_eq_true rfl, Nat.le_of_ble_eq_true rfl⟩ dX3_goOn_136 (fun r17 u9 H locs hq hW => ?_)
                obtain ⟨kq15, gq16, -, hgq16, rfl⟩ := hq
                have hW : WD g A s _ _ [(gs, .inr (3, [.ref v, .int al, .ref kn])), (kn, .inl (g.2.1 1, 5, .inl kq15)), (v, .inr (10, [.int (nI pp), .int (nI lc), .int de, .ref v3, .ref v4, .ref v5, .ref v6, .ref v7, .ref v8, .ref v9, .ref v10, .ref v11, .ref v12, .ref v13, .int gl, .ref v15])), (v9, .inl (g.2.1 1, 72, .inl L)), (v15, .inl (g.2.1 1, 7, .inl gq16))] := hW
                refine lv_if_eq (tgt := 144) (pc := 139) hx hb dX3_goOn_139 rfl (fun c18 => ?_) (fun c18 => ?_)
                · refine lv_aload_n (pc := 144) hx hb dX3_goOn_144 rfl (lv_at hl 4 rfl) ?_
                  refine r_get X hW 0 ciX3 2 rfl (by decide) m_198 rfl rfl dX3_goOn_145 ?_
                  refine lv_iload (pc := 148) hx hb dX3_goOn_148 (lv_at hl 3 rfl) ?_
                  refine lv_iload (pc := 150) hx hb dX3_goOn_150 (lv_at hl 1 rfl) ?_
                  obtain ⟨f19, ef19⟩ : ∃ fz : Nat → Int32, upd kq15 (nI ea).toNatClampNeg (kk (nI ea).toNatClampNeg) = fz := ⟨_, rfl⟩
                  refine r_iast (ws' := [(gs, .inr (3, [.ref v, .int al, .ref kn])), (kn, .inl (g.2.1 1, 5, .inl f19)), (v, .inr (10, [.int (nI pp), .int (nI lc), .int de, .ref v3, .ref v4, .ref v5, .ref v6, .ref v7, .ref v8, .ref v9, .ref v10, .ref v11, .ref v12, .ref v13, .int gl, .ref v15])), (v9, .inl (g.2.1 1, 72, .inl L)), (v15, .inl (g.2.1 1, 7, .inl gq16))]) X hW 1 rfl (vp_in_nI (by omega) (by decide)) ef19 rfl dX3_goOn_152 (fun H locs hW => ?_)
                  refine lv_aload_n (pc := 153) hx hb dX3_goOn_153 rfl (lv_at hl 4 rfl) ?_
                  refine r_get X hW 0 ciX3 2 rfl (by decide) m_198 rfl rfl dX3_goOn_154 ?_
                  refine lv_iload (pc := 157) hx hb dX3_goOn_157 (lv_at hl 2 rfl) ?_
                  refine lv_iload (pc := 159) hx hb dX3_goOn_159 (lv_at hl 0 rfl) ?_
                  obtain ⟨f20, ef20⟩ : ∃ fz : Nat → Int32, upd f19 (nI eb).toNatClampNeg (kk (nI eb).toNatClampNeg) = fz := ⟨_, rfl⟩
                  refine r_iast (ws' := [(gs, .inr (3, [.ref v, .int al, .ref kn])), (kn, .inl (g.2.1 1, 5, .inl f20)), (v, .inr (10, [.int (nI pp), .int (nI lc), .int de, .ref v3, .ref v4, .ref v5, .ref v6, .ref v7, .ref v8, .ref v9, .ref v10, .ref v11, .ref v12, .ref v13, .int gl, .ref v15])), (v9, .inl (g.2.1 1, 72, .inl L)), (v15, .inl (g.2.1 1, 7, .inl gq16))]) X hW 1 rfl (vp_in_nI (by omega) (by decide)) ef20 rfl dX3_goOn_161 (fun H locs hW => ?_)
                  refine lv_iinc (v := nI (i + 1)) (lv' := [(3, .int (nI (i + 1))), (7, .int (kk (nI eb).toNatClampNeg)), (6, .int (kk (nI ea).toNatClampNeg)), (5, .int (nI eb)), (4, .int (nI ea)), (0, .ref gs), (1, .int 4), (2, .int (nI ca))]) (pc := 162) hx hb dX3_goOn_162 hl (k := 7) rfl ((nI_succ i).symm) (by decide) rfl (fun ls hl => ?_)
                  refine lv_goto (tgt := 27) (pc := 165) hx hb dX3_goOn_165 rfl ?_
                  have hW : WD g A s _ _ [(gs, .inr (3, [.ref v, .int al, .ref kn])), (kn, .inl (g.2.1 1, 5, .inl f20)), (v, .inr (10, [.int (nI pp), .int (nI lc), .int de, .ref v3, .ref v4, .ref v5, .ref v6, .ref v7, .ref v8, .ref v9, .ref v10, .ref v11, .ref v12, .ref v13, .int gl, .ref v15])), (v9, .inl (g.2.1 1, 72, .inl L)), (v15, .inl (g.2.1 1, 7, .inl gq16))] := hW.pick [0, 1, 2, 3, 4] rfl rfl
                  exact ih1 (i + 1) f20 gq16 (by omega) (by omega) hgq16 _ _ _ hW (lv_sub hl [5, 6, 7, 0] rfl)
                · refine lv_iconst (v := 1) (pc := 142) hx hb dX3_goOn_142 (by decide) ?_
                  exact e_z X hQ hr hW (u := [(gs, .inr (3, [.ref v, .int al, .ref kn])), (kn, .inl (g.2.1 1, 5, .inl kq15)), (v, .inr (10, [.int (nI pp), .int (nI lc), .int de, .ref v3, .ref v4, .ref v5, .ref v6, .ref v7, .ref v8, .ref v9, .ref v10, .ref v11, .ref v12, .ref v13, .int gl, .ref v15])), (v9, .inl (g.2.1 1, 72, .inl L)), (v15, .inl (g.2.1 1, 7, .inl gq16))]) rfl [0, 1, 2, 3, 4] rfl rfl (⟨_, _, Or.inr rfl, hgq16, rfl⟩) ⟨Nat.le_of_ble_eq_true rfl, Nat.le_of_ble_eq_true rfl⟩ dX3_goOn_143
              · refine lv_goto (tgt := 162) (pc := 94) hx hb dX3_goOn_94 rfl ?_
                refine lv_iinc (v := nI (i + 1)) (lv' := [(3, .int (nI (i + 1))), (7, .int (kk (nI eb).toNatClampNeg)), (6, .int (kk (nI ea).toNatClampNeg)), (5, .int (nI eb)), (4, .int (nI ea)), (0, .ref gs), (1, .int 4), (2, .int (nI ca))]) (pc := 162) hx hb dX3_goOn_162 hl (k := 7) rfl ((nI_succ i).symm) (by decide) rfl (fun ls hl => ?_)
                refine lv_goto (tgt := 27) (pc := 165) hx hb dX3_goOn_165 rfl ?_
                have hW : WD g A s _ _ [(gs, .inr (3, [.ref v, .int al, .ref kn])), (kn, .inl (g.2.1 1, 5, .inl kk)), (v, .inr (10, [.int (nI pp), .int (nI lc), .int de, .ref v3, .ref v4, .ref v5, .ref v6, .ref v7, .ref v8, .ref v9, .ref v10, .ref v11, .ref v12, .ref v13, .int gl, .ref v15])), (v9, .inl (g.2.1 1, 72, .inl L)), (v15, .inl (g.2.1 1, 7, .inl gr))] := hW.pick [0, 1, 3, 4, 2] rfl rfl
                exact ih1 (i + 1) kk gr (by omega) (by omega) hgr _ _ _ hW (lv_sub hl [5, 6, 7, 0] rfl)
      exact loop1 (lc + 1) 0 kf gr0 (by omega) (Nat.zero_le _) hg0 _ _ _ hW (lv_sub hl [1, 2, 3, 0] rfl)
  · refine lv_iconst (v := 0) (pc := 10) hx hb dX3_goOn_10 (by decide) ?_
    exact e_z X hQ hr hW (u := [(gs, .inr (3, [.ref v, .int al, .ref kn])), (kn, .inl (g.2.1 1, 5, .inl kf)), (v, .inr (10, [.int (nI pp), .int (nI lc), .int de, .ref v3, .ref v4, .ref v5, .ref v6, .ref v7, .ref v8, .ref v9, .ref v10, .ref v11, .ref v12, .ref v13, .int gl, .ref v15])), (v9, .inl (g.2.1 1, 72, .inl L)), (v15, .inl (g.2.1 1, 7, .inl gr0))]) rfl [2, 3, 4, 0, 1] rfl rfl (⟨_, _, Or.inl rfl, hg0, rfl⟩) ⟨Nat.le_of_ble_eq_true rfl, Nat.le_of_ble_eq_true rfl⟩ dX3_goOn_11

set_option maxHeartbeats 4000000 in
set_option maxRecDepth 100000 in
theorem C_X3_goOn_3 (l : Launch) (g : GG) (gs kn : Nat) (al : Int32) (kf : Nat → Int32) (v v3 v4 v5 v6 v7 v8 v9 v10 v11 v12 v13 v15 : Nat) (de gl : Int32) (lc pp : Nat) (hlc : lc ≤ 12) (hpp : pp ≤ 5) (L gr0 : Nat → Int32) (ca : Nat) (hL : endsIn L lc pp) (hg0 : gb gr0) (hca : ca ≤ 7) : MetI l g yX3_goOn cX3_goOn 8 (some .boolean) 6 0 0 [.ref gs, .int 3, .int (nI ca)] [(gs, .inr (3, [.ref v, .int al, .ref kn])), (kn, .inl (g.2.1 1, 5, .inl kf)), (v, .inr (10, [.int (nI pp), .int (nI lc), .int de, .ref v3, .ref v4, .ref v5, .ref v6, .ref v7, .ref v8, .ref v9, .ref v10, .ref v11, .ref v12, .ref v13, .int gl, .ref v15])), (v9, .inl (g.2.1 1, 72, .inl L)), (v15, .inl (g.2.1 1, 7, .inl gr0))] (fun r u => ∃ kf' gr' : Nat → Int32, (r = 0 ∨ r = 1) ∧ gb gr' ∧ u = [(gs, .inr (3, [.ref v, .int al, .ref kn])), (kn, .inl (g.2.1 1, 5, .inl kf')), (v, .inr (10, [.int (nI pp), .int (nI lc), .int de, .ref v3, .ref v4, .ref v5, .ref v6, .ref v7, .ref v8, .ref v9, .ref v10, .ref v11, .ref v12, .ref v13, .int gl, .ref v15])), (v9, .inl (g.2.1 1, 72, .inl L)), (v15, .inl (g.2.1 1, 7, .inl gr'))]) := by
  refine MetI.of (own := RX3) rfl (by decide) (Nat.le_of_ble_eq_true rfl) ?_
  intro p e s m below meth c A ls args Q hQ X hr hin hW hl
  have hx := X.1
  have hb := X.2.1
  have hl : lv_has ls 8 [(0, .ref gs), (1, .int 3), (2, .int (nI ca))] := hl
  refine lv_aload_n (pc := 0) hx hb dX3_goOn_0 rfl (lv_at hl 0 rfl) ?_
  refine lv_iload_n (pc := 1) hx hb dX3_goOn_1 rfl (lv_at hl 2 rfl) ?_
  refine lv_iload_n (pc := 2) hx hb dX3_goOn_2 rfl (lv_at hl 1 rfl) ?_
  refine lv_isub (pc := 3) hx hb dX3_goOn_3 ?_
  refine c_Vi (pc := 4) (As := [.int ((nI ca) - 3)]) (rest := []) (wr := [(v9, .inl (g.2.1 1, 72, .inl L)), (v15, .inl (g.2.1 1, 7, .inl gr0))]) X hW 0 ciX3 rfl (C_X3_canEndG l g gs kn al kf v v3 v4 v5 v6 v7 v8 v9 v10 v11 v12 v13 v15 de gl lc pp hlc hpp ((nI ca) - 3)) vX3_54 [0, 1, 2] [3, 4] rfl rfl rfl rfl rfl rfl hl.1 rfl (Nat.le_of_ble_eq_true rfl) ⟨Nat.le_of_ble_eq_true rfl, Nat.le_of_ble_eq_true rfl⟩ ⟨Nat.le_of_ble_eq_true rfl, Nat.le_of_ble_eq_true rfl⟩ dX3_goOn_4 (fun r1 u9 H locs hq hW => ?_)
  obtain ⟨-, rfl⟩ := hq
  have hW : WD g A s _ _ [(v9, .inl (g.2.1 1, 72, .inl L)), (v15, .inl (g.2.1 1, 7, .inl gr0)), (gs, .inr (3, [.ref v, .int al, .ref kn])), (kn, .inl (g.2.1 1, 5, .inl kf)), (v, .inr (10, [.int (nI pp), .int (nI lc), .int de, .ref v3, .ref v4, .ref v5, .ref v6, .ref v7, .ref v8, .ref v9, .ref v10, .ref v11, .ref v12, .ref v13, .int gl, .ref v15]))] := hW
  refine lv_if_ne (tgt := 12) (pc := 7) hx hb dX3_goOn_7 rfl (fun c2 => ?_) (fun c2 => ?_)
  · refine lv_iload_n (pc := 12) hx hb dX3_goOn_12 rfl (lv_at hl 1 rfl) ?_
    refine lv_iload_n (pc := 13) hx hb dX3_goOn_13 rfl (lv_at hl 2 rfl) ?_
    refine lv_icmp_ge (tgt := 23) (pc := 14) hx hb dX3_goOn_14 rfl (fun c3 => ?_) (fun c3 => ?_)
    · refine lv_iconst (v := 1) (pc := 23) hx hb dX3_goOn_23 (by decide) ?_
      exact e_z X hQ hr hW (u := [(gs, .inr (3, [.ref v, .int al, .ref kn])), (kn, .inl (g.2.1 1, 5, .inl kf)), (v, .inr (10, [.int (nI pp), .int (nI lc), .int de, .ref v3, .ref v4, .ref v5, .ref v6, .ref v7, .ref v8, .ref v9, .ref v10, .ref v11, .ref v12, .ref v13, .int gl, .ref v15])), (v9, .inl (g.2.1 1, 72, .inl L)), (v15, .inl (g.2.1 1, 7, .inl gr0))]) rfl [2, 3, 4, 0, 1] rfl rfl (⟨_, _, Or.inr rfl, hg0, rfl⟩) ⟨Nat.le_of_ble_eq_true rfl, Nat.le_of_ble_eq_true rfl⟩ dX3_goOn_24
    · refine lv_iload_n (pc := 17) hx hb dX3_goOn_17 rfl (lv_at hl 1 rfl) ?_
      refine lv_bipush (v := 7) (pc := 18) hx hb dX3_goOn_18 (by decide) ?_
      refine lv_icmp_lt (tgt := 25) (pc := 20) hx hb dX3_goOn_20 rfl (fun c4 => ?_) (fun c4 => absurd (by decide) c4)
      refine lv_iconst (v := 0) (pc := 25) hx hb dX3_goOn_25 (by decide) ?_
      refine lv_istore_n (lv' := [(3, .int 0), (0, .ref gs), (1, .int 3), (2, .int (nI ca))]) (pc := 26) hx hb dX3_goOn_26 rfl hl (by decide) rfl (fun ls hl => ?_)
      have hW : WD g A s _ _ [(gs, .inr (3, [.ref v, .int al, .ref kn])), (kn, .inl (g.2.1 1, 5, .inl kf)), (v, .inr (10, [.int (nI pp), .int (nI lc), .int de, .ref v3, .ref v4, .ref v5, .ref v6, .ref v7, .ref v8, .ref v9, .ref v10, .ref v11, .ref v12, .ref v13, .int gl, .ref v15])), (v9, .inl (g.2.1 1, 72, .inl L)), (v15, .inl (g.2.1 1, 7, .inl gr0))] := hW.pick [2, 3, 4, 0, 1] rfl rfl
      have loop1 : ∀ (fu : Nat) (i : Nat) (kk : Nat → Int32) (gr : Nat → Int32), (lc < fu + i) → (i ≤ lc) → (gb gr) → ∀ (H : Heap) (locs : List Loc) (ls : Array Slot), WD g A s H locs [(gs, .inr (3, [.ref v, .int al, .ref kn])), (kn, .inl (g.2.1 1, 5, .inl kk)), (v, .inr (10, [.int (nI pp), .int (nI lc), .int de, .ref v3, .ref v4, .ref v5, .ref v6, .ref v7, .ref v8, .ref v9, .ref v10, .ref v11, .ref v12, .ref v13, .int gl, .ref v15])), (v9, .inl (g.2.1 1, 72, .inl L)), (v15, .inl (g.2.1 1, 7, .inl gr))] → lv_has ls 8 [(0, .ref gs), (1, .int 3), (2, .int (nI ca)), (3, .int (nI i))] → W p l e (RM 6 0 0) s m args below meth c H locs 0 0 Q (F0 m 27 ls []) := by
        intro fu
        induction fu with
        | zero =>
          intro i kk gr hm hi hgr
          exact absurd hm (by omega)
        | succ fu ih1 =>
          intro i kk gr hm hi hgr H locs ls hW hl
          refine lv_iload_n (pc := 27) hx hb dX3_goOn_27 rfl (lv_at hl 3 rfl) ?_
          refine lv_aload_n (pc := 28) hx hb dX3_goOn_28 rfl (lv_at hl 0 rfl) ?_
          refine r_get X hW 0 ciX3 0 rfl (by decide) m_196 rfl rfl dX3_goOn_29 ?_
          refine r_getN X hW 2 ciX10 1 rfl (by decide) m_283 rfl rfl dX3_goOn_32 ?_
          refine lv_icmp_ge (tgt := 168) (pc := 35) hx hb dX3_goOn_35 rfl (fun c5 => ?_) (fun c5 => ?_)
          · refine lv_iconst (v := 0) (pc := 168) hx hb dX3_goOn_168 (by decide) ?_
            exact e_z X hQ hr hW (u := [(gs, .inr (3, [.ref v, .int al, .ref kn])), (kn, .inl (g.2.1 1, 5, .inl kk)), (v, .inr (10, [.int (nI pp), .int (nI lc), .int de, .ref v3, .ref v4, .ref v5, .ref v6, .ref v7, .ref v8, .ref v9, .ref v10, .ref v11, .ref v12, .ref v13, .int gl, .ref v15])), (v9, .inl (g.2.1 1, 72, .inl L)), (v15, .inl (g.2.1 1, 7, .inl gr))]) rfl [0, 1, 2, 3, 4] rfl rfl (⟨_, _, Or.inl rfl, hgr, rfl⟩) ⟨Nat.le_of_ble_eq_true rfl, Nat.le_of_ble_eq_true rfl⟩ dX3_goOn_169
          · have hil : i < lc := ge_f (by omega) (by omega) c5
            obtain ⟨ea, eb, hea, heb, eA, eB⟩ := hL i hil
            refine lv_aload_n (pc := 38) hx hb dX3_goOn_38 rfl (lv_at hl 0 rfl) ?_
            refine r_get X hW 0 ciX3 0 rfl (by decide) m_196 rfl rfl dX3_goOn_39 ?_
            refine lv_iload_n (pc := 42) hx hb dX3_goOn_42 rfl (lv_at hl 3 rfl) ?_
            refine c_Vi (pc := 43) (As := [.int (nI i)]) (rest := []) (wr := [(gs, .inr (3, [.ref v, .int al, .ref kn])), (kn, .inl (g.2.1 1, 5, .inl kk)), (v15, .inl (g.2.1 1, 7, .inl gr))]) X hW 2 ciX10 rfl (C_X10_lineAG l g v v3 v4 v5 v6 v7 v8 v9 v10 v11 v12 v13 v15 (nI pp) (nI lc) de gl L i (by omega)) vX3_61 [2, 3] [0, 1, 4] rfl rfl rfl rfl rfl rfl hl.1 rfl (Nat.le_of_ble_eq_true rfl) ⟨Nat.le_of_ble_eq_true rfl, Nat.le_of_ble_eq_true rfl⟩ ⟨Nat.le_of_ble_eq_true rfl, Nat.le_of_ble_eq_true rfl⟩ dX3_goOn_43 (fun r6 u9 H locs hq hW => ?_)
            obtain ⟨rfl, rfl⟩ := hq
            have hW : WD g A s _ _ [(gs, .inr (3, [.ref v, .int al, .ref kn])), (kn, .inl (g.2.1 1, 5, .inl kk)), (v15, .inl (g.2.1 1, 7, .inl gr)), (v, .inr (10, [.int (nI pp), .int (nI lc), .int de, .ref v3, .ref v4, .ref v5, .ref v6, .ref v7, .ref v8, .ref v9, .ref v10, .ref v11, .ref v12, .ref v13, .int gl, .ref v15])), (v9, .inl (g.2.1 1, 72, .inl L))] := hW
            rw [eA]
            refine lv_istore (lv' := [(4, .int (nI ea)), (0, .ref gs), (1, .int 3), (2, .int (nI ca)), (3, .int (nI i))]) (pc := 46) hx hb dX3_goOn_46 hl (by decide) rfl (fun ls hl => ?_)
            refine lv_aload_n (pc := 48) hx hb dX3_goOn_48 rfl (lv_at hl 1 rfl) ?_
            refine r_get X hW 0 ciX3 0 rfl (by decide) m_196 rfl rfl dX3_goOn_49 ?_
            refine lv_iload_n (pc := 52) hx hb dX3_goOn_52 rfl (lv_at hl 4 rfl) ?_
            refine c_Vi (pc := 53) (As := [.int (nI i)]) (rest := []) (wr := [(gs, .inr (3, [.ref v, .int al, .ref kn])), (kn, .inl (g.2.1 1, 5, .inl kk)), (v15, .inl (g.2.1 1, 7, .inl gr))]) X hW 3 ciX10 rfl (C_X10_lineBG l g v v3 v4 v5 v6 v7 v8 v9 v10 v11 v12 v13 v15 (nI pp) (nI lc) de gl L i (by omega)) vX3_64 [3, 4] [0, 1, 2] rfl rfl rfl rfl rfl rfl hl.1 rfl (Nat.le_of_ble_eq_true rfl) ⟨Nat.le_of_ble_eq_true rfl, Nat.le_of_ble_eq_true rfl⟩ ⟨Nat.le_of_ble_eq_true rfl, Nat.le_of_ble_eq_true rfl⟩ dX3_goOn_53 (fun r7 u9 H locs hq hW => ?_)
            obtain ⟨rfl, rfl⟩ := hq
            have hW : WD g A s _ _ [(gs, .inr (3, [.ref v, .int al, .ref kn])), (kn, .inl (g.2.1 1, 5, .inl kk)), (v15, .inl (g.2.1 1, 7, .inl gr)), (v, .inr (10, [.int (nI pp), .int (nI lc), .int de, .ref v3, .ref v4, .ref v5, .ref v6, .ref v7, .ref v8, .ref v9, .ref v10, .ref v11, .ref v12, .ref v13, .int gl, .ref v15])), (v9, .inl (g.2.1 1, 72, .inl L))] := hW
            rw [eB]
            refine lv_istore (lv' := [(5, .int (nI eb)), (4, .int (nI ea)), (0, .ref gs), (1, .int 3), (2, .int (nI ca)), (3, .int (nI i))]) (pc := 56) hx hb dX3_goOn_56 hl (by decide) rfl (fun ls hl => ?_)
            refine lv_aload_n (pc := 58) hx hb dX3_goOn_58 rfl (lv_at hl 2 rfl) ?_
            refine r_get X hW 0 ciX3 2 rfl (by decide) m_198 rfl rfl dX3_goOn_59 ?_
            refine lv_iload (pc := 62) hx hb dX3_goOn_62 (lv_at hl 1 rfl) ?_
            refine r_iald X hW 1 rfl (vp_in_nI (by omega) (by decide)) dX3_goOn_64 ?_
            refine lv_istore (lv' := [(6, .int (kk (nI ea).toNatClampNeg)), (5, .int (nI eb)), (4, .int (nI ea)), (0, .ref gs), (1, .int 3), (2, .int (nI ca)), (3, .int (nI i))]) (pc := 65) hx hb dX3_goOn_65 hl (by decide) rfl (fun ls hl => ?_)
            refine lv_aload_n (pc := 67) hx hb dX3_goOn_67 rfl (lv_at hl 3 rfl) ?_
            refine r_get X hW 0 ciX3 2 rfl (by decide) m_198 rfl rfl dX3_goOn_68 ?_
            refine lv_iload (pc := 71) hx hb dX3_goOn_71 (lv_at hl 1 rfl) ?_
            refine r_iald X hW 1 rfl (vp_in_nI (by omega) (by decide)) dX3_goOn_73 ?_
            refine lv_istore (lv' := [(7, .int (kk (nI eb).toNatClampNeg)), (6, .int (kk (nI ea).toNatClampNeg)), (5, .int (nI eb)), (4, .int (nI ea)), (0, .ref gs), (1, .int 3), (2, .int (nI ca)), (3, .int (nI i))]) (pc := 74) hx hb dX3_goOn_74 hl (by decide) rfl (fun ls hl => ?_)
            refine lv_aload_n (pc := 76) hx hb dX3_goOn_76 rfl (lv_at hl 4 rfl) ?_
            refine r_get X hW 0 ciX3 0 rfl (by decide) m_196 rfl rfl dX3_goOn_77 ?_
            refine lv_iload_n (pc := 80) hx hb dX3_goOn_80 rfl (lv_at hl 7 rfl) ?_
            refine c_Vi (pc := 81) (As := [.int (nI i)]) (rest := []) (wr := [(gs, .inr (3, [.ref v, .int al, .ref kn])), (kn, .inl (g.2.1 1, 5, .inl kk)), (v15, .inl (g.2.1 1, 7, .inl gr))]) X hW 3 ciX10 rfl (C_X10_isOneWayG l g v v3 v4 v5 v6 v7 v8 v9 v10 v11 v12 v13 v15 (nI pp) (nI lc) de gl L i (by omega)) vX3_67 [3, 4] [0, 1, 2] rfl rfl rfl rfl rfl rfl hl.1 rfl (Nat.le_of_ble_eq_true rfl) ⟨Nat.le_of_ble_eq_true rfl, Nat.le_of_ble_eq_true rfl⟩ ⟨Nat.le_of_ble_eq_true rfl, Nat.le_of_ble_eq_true rfl⟩ dX3_goOn_81 (fun r8 u9 H locs hq hW => ?_)
            obtain ⟨rfl, rfl⟩ := hq
            have hW : WD g A s _ _ [(gs, .inr (3, [.ref v, .int al, .ref kn])), (kn, .inl (g.2.1 1, 5, .inl kk)), (v15, .inl (g.2.1 1, 7, .inl gr)), (v, .inr (10, [.int (nI pp), .int (nI lc), .int de, .ref v3, .ref v4, .ref v5, .ref v6, .ref v7, .ref v8, .ref v9, .ref v10, .ref v11, .ref v12, .ref v13, .int gl, .ref v15])), (v9, .inl (g.2.1 1, 72, .inl L))] := hW
            refine lv_if_ne (tgt := 162) (pc := 84) hx hb dX3_goOn_84 rfl (fun c9 => ?_) (fun c9 => ?_)
            · refine lv_iinc (v := nI (i + 1)) (lv' := [(3, .int (nI (i + 1))), (7, .int (kk (nI eb).toNatClampNeg)), (6, .int (kk (nI ea).toNatClampNeg)), (5, .int (nI eb)), (4, .int (nI ea)), (0, .ref gs), (1, .int 3), (2, .int (nI ca))]) (pc := 162) hx hb dX3_goOn_162 hl (k := 7) rfl ((nI_succ i).symm) (by decide) rfl (fun ls hl => ?_)
              refine lv_goto (tgt := 27) (pc := 165) hx hb dX3_goOn_165 rfl ?_
              have hW : WD g A s _ _ [(gs, .inr (3, [.ref v, .int al, .ref kn])), (kn, .inl (g.2.1 1, 5, .inl kk)), (v, .inr (10, [.int (nI pp), .int (nI lc), .int de, .ref v3, .ref v4, .ref v5, .ref v6, .ref v7, .ref v8, .ref v9, .ref v10, .ref v11, .ref v12, .ref v13, .int gl, .ref v15])), (v9, .inl (g.2.1 1, 72, .inl L)), (v15, .inl (g.2.1 1, 7, .inl gr))] := hW.pick [0, 1, 3, 4, 2] rfl rfl
              exact ih1 (i + 1) kk gr (by omega) (by omega) hgr _ _ _ hW (lv_sub hl [5, 6, 7, 0] rfl)
            · refine lv_iload (pc := 87) hx hb dX3_goOn_87 (lv_at hl 1 rfl) ?_
              refine lv_iload (pc := 89) hx hb dX3_goOn_89 (lv_at hl 0 rfl) ?_
              refine lv_icmp_ne (tgt := 97) (pc := 91) hx hb dX3_goOn_91 rfl (fun c10 => ?_) (fun c10 => ?_)
              · refine lv_aload_n (pc := 97) hx hb dX3_goOn_97 rfl (lv_at hl 4 rfl) ?_
                refine r_get X hW 0 ciX3 2 rfl (by decide) m_198 rfl rfl dX3_goOn_98 ?_
                refine lv_iload (pc := 101) hx hb dX3_goOn_101 (lv_at hl 3 rfl) ?_
                refine lv_iload (pc := 103) hx hb dX3_goOn_103 (lv_at hl 1 rfl) ?_
                refine lv_iload (pc := 105) hx hb dX3_goOn_105 (lv_at hl 0 rfl) ?_
                refine lv_ior (pc := 107) hx hb dX3_goOn_107 ?_
                obtain ⟨f11, ef11⟩ : ∃ fz : Nat → Int32, upd kk (nI ea).toNatClampNeg ((kk (nI ea).toNatClampNeg) ||| (kk (nI eb).toNatClampNeg)) = fz := ⟨_, rfl⟩
                refine r_iast (ws' := [(gs, .inr (3, [.ref v, .int al, .ref kn])), (kn, .inl (g.2.1 1, 5, .inl f11)), (v15, .inl (g.2.1 1, 7, .inl gr)), (v, .inr (10, [.int (nI pp), .int (nI lc), .int de, .ref v3, .ref v4, .ref v5, .ref v6, .ref v7, .ref v8, .ref v9, .ref v10, .ref v11, .ref v12, .ref v13, .int gl, .ref v15])), (v9, .inl (g.2.1 1, 72, .inl L))]) X hW 1 rfl (vp_in_nI (by omega) (by decide)) ef11 rfl dX3_goOn_108 (fun H locs hW => ?_)
                refine lv_aload_n (pc := 109) hx hb dX3_goOn_109 rfl (lv_at hl 4 rfl) ?_
                refine r_get X hW 0 ciX3 2 rfl (by decide) m_198 rfl rfl dX3_goOn_110 ?_
                refine lv_iload (pc := 113) hx hb dX3_goOn_113 (lv_at hl 2 rfl) ?_
                refine lv_iload (pc := 115) hx hb dX3_goOn_115 (lv_at hl 1 rfl) ?_
                refine lv_iload (pc := 117) hx hb dX3_goOn_117 (lv_at hl 0 rfl) ?_
                refine lv_ior (pc := 119) hx hb dX3_goOn_119 ?_
                obtain ⟨f12, ef12⟩ : ∃ fz : Nat → Int32, upd f11 (nI eb).toNatClampNeg ((kk (nI ea).toNatClampNeg) ||| (kk (nI eb).toNatClampNeg)) = fz := ⟨_, rfl⟩
                refine r_iast (ws' := [(gs, .inr (3, [.ref v, .int al, .ref kn])), (kn, .inl (g.2.1 1, 5, .inl f12)), (v15, .inl (g.2.1 1, 7, .inl gr)), (v, .inr (10, [.int (nI pp), .int (nI lc), .int de, .ref v3, .ref v4, .ref v5, .ref v6, .ref v7, .ref v8, .ref v9, .ref v10, .ref v11, .ref v12, .ref v13, .int gl, .ref v15])), (v9, .inl (g.2.1 1, 72, .inl L))]) X hW 1 rfl (vp_in_nI (by omega) (by decide)) ef12 rfl dX3_goOn_120 (fun H locs hW => ?_)
                refine lv_aload_n (pc := 121) hx hb dX3_goOn_121 rfl (lv_at hl 4 rfl) ?_
                refine r_get X hW 0 ciX3 0 rfl (by decide) m_196 rfl rfl dX3_goOn_122 ?_
                refine r_getN X hW 3 ciX10 15 rfl (by decide) m_318 rfl rfl dX3_goOn_125 ?_
                refine lv_iload_n (pc := 128) hx hb dX3_goOn_128 rfl (lv_at hl 5 rfl) ?_
                refine lv_iload_n (pc := 129) hx hb dX3_goOn_129 rfl (lv_at hl 7 rfl) ?_
                obtain ⟨f13, ef13⟩ : ∃ fz : Nat → Int32, upd gr (3 : Int32).toNatClampNeg (nI i) = fz := ⟨_, rfl⟩
                refine r_iast (ws' := [(gs, .inr (3, [.ref v, .int al, .ref kn])), (kn, .inl (g.2.1 1, 5, .inl f12)), (v15, .inl (g.2.1 1, 7, .inl f13)), (v, .inr (10, [.int (nI pp), .int (nI lc), .int de, .ref v3, .ref v4, .ref v5, .ref v6, .ref v7, .ref v8, .ref v9, .ref v10, .ref v11, .ref v12, .ref v13, .int gl, .ref v15])), (v9, .inl (g.2.1 1, 72, .inl L))]) X hW 2 rfl (by unfold vp_in; decide) ef13 rfl dX3_goOn_130 (fun H locs hW => ?_)
                have hg_f13 : gb f13 := by rw [← ef13]; exact gb_upd hgr (by omega)
                refine lv_aload_n (pc := 131) hx hb dX3_goOn_131 rfl (lv_at hl 4 rfl) ?_
                refine lv_iload_n (pc := 132) hx hb dX3_goOn_132 rfl (lv_at hl 5 rfl) ?_
                refine lv_iconst (v := 1) (pc := 133) hx hb dX3_goOn_133 (by decide) ?_
                refine lv_iadd (pc := 134) hx hb dX3_goOn_134 ?_
                refine lv_topi (fun uv14 euv14 => ?_)
                obtain rfl : uv14 = 4 := euv14.trans (by decide +kernel)
                refine lv_iload_n (pc := 135) hx hb dX3_goOn_135 rfl (lv_at hl 6 rfl) ?_
                refine c_Vi (pc := 136) (As := [.int 4, .int (nI ca)]) (rest := []) (wr := []) X hW 0 ciX3 rfl (C_X3_goOn_4 l g gs kn al f12 v v3 v4 v5 v6 v7 v8 v9 v10 v11 v12 v13 v15 de gl lc pp hlc hpp L f13 ca hL hg_f13 hca) vX3_50 [0, 1, 3, 4, 2] [] rfl rfl rfl rfl rfl rfl hl.1 rfl (Nat.le_of_ble_eq_true rfl) ⟨Nat.le_of_ble_eq_true rfl, Nat.le_of_ble_eq_true rfl⟩ ⟨Nat.le_of_ble_eq_true rfl, Nat.le_of_ble_eq_true rfl⟩ dX3_goOn_136 (fun r17 u9 H locs hq hW => ?_)
                obtain ⟨kq15, gq16, -, hgq16, rfl⟩ := hq
                have hW : WD g A s _ _ [(gs, .inr (3, [.ref v, .int al, .ref kn])), (kn, .inl (g.2.1 1, 5, .inl kq15)), (v, .inr (10, [.int (nI pp), .int (nI lc), .int de, .ref v3, .ref v4, .ref v5, .ref v6, .ref v7, .ref v8, .ref v9, .ref v10, .ref v11, .ref v12, .ref v13, .int gl, .ref v15])), (v9, .inl (g.2.1 1, 72, .inl L)), (v15, .inl (g.2.1 1, 7, .inl gq16))] := hW
                refine lv_if_eq (tgt := 144) (pc := 139) hx hb dX3_goOn_139 rfl (fun c18 => ?_) (fun c18 => ?_)
                · refine lv_aload_n (pc := 144) hx hb dX3_goOn_144 rfl (lv_at hl 4 rfl) ?_
                  refine r_get X hW 0 ciX3 2 rfl (by decide) m_198 rfl rfl dX3_goOn_145 ?_
                  refine lv_iload (pc := 148) hx hb dX3_goOn_148 (lv_at hl 3 rfl) ?_
                  refine lv_iload (pc := 150) hx hb dX3_goOn_150 (lv_at hl 1 rfl) ?_
                  obtain ⟨f19, ef19⟩ : ∃ fz : Nat → Int32, upd kq15 (nI ea).toNatClampNeg (kk (nI ea).toNatClampNeg) = fz := ⟨_, rfl⟩
                  refine r_iast (ws' := [(gs, .inr (3, [.ref v, .int al, .ref kn])), (kn, .inl (g.2.1 1, 5, .inl f19)), (v, .inr (10, [.int (nI pp), .int (nI lc), .int de, .ref v3, .ref v4, .ref v5, .ref v6, .ref v7, .ref v8, .ref v9, .ref v10, .ref v11, .ref v12, .ref v13, .int gl, .ref v15])), (v9, .inl (g.2.1 1, 72, .inl L)), (v15, .inl (g.2.1 1, 7, .inl gq16))]) X hW 1 rfl (vp_in_nI (by omega) (by decide)) ef19 rfl dX3_goOn_152 (fun H locs hW => ?_)
                  refine lv_aload_n (pc := 153) hx hb dX3_goOn_153 rfl (lv_at hl 4 rfl) ?_
                  refine r_get X hW 0 ciX3 2 rfl (by decide) m_198 rfl rfl dX3_goOn_154 ?_
                  refine lv_iload (pc := 157) hx hb dX3_goOn_157 (lv_at hl 2 rfl) ?_
                  refine lv_iload (pc := 159) hx hb dX3_goOn_159 (lv_at hl 0 rfl) ?_
                  obtain ⟨f20, ef20⟩ : ∃ fz : Nat → Int32, upd f19 (nI eb).toNatClampNeg (kk (nI eb).toNatClampNeg) = fz := ⟨_, rfl⟩
                  refine r_iast (ws' := [(gs, .inr (3, [.ref v, .int al, .ref kn])), (kn, .inl (g.2.1 1, 5, .inl f20)), (v, .inr (10, [.int (nI pp), .int (nI lc), .int de, .ref v3, .ref v4, .ref v5, .ref v6, .ref v7, .ref v8, .ref v9, .ref v10, .ref v11, .ref v12, .ref v13, .int gl, .ref v15])), (v9, .inl (g.2.1 1, 72, .inl L)), (v15, .inl (g.2.1 1, 7, .inl gq16))]) X hW 1 rfl (vp_in_nI (by omega) (by decide)) ef20 rfl dX3_goOn_161 (fun H locs hW => ?_)
                  refine lv_iinc (v := nI (i + 1)) (lv' := [(3, .int (nI (i + 1))), (7, .int (kk (nI eb).toNatClampNeg)), (6, .int (kk (nI ea).toNatClampNeg)), (5, .int (nI eb)), (4, .int (nI ea)), (0, .ref gs), (1, .int 3), (2, .int (nI ca))]) (pc := 162) hx hb dX3_goOn_162 hl (k := 7) rfl ((nI_succ i).symm) (by decide) rfl (fun ls hl => ?_)
                  refine lv_goto (tgt := 27) (pc := 165) hx hb dX3_goOn_165 rfl ?_
                  have hW : WD g A s _ _ [(gs, .inr (3, [.ref v, .int al, .ref kn])), (kn, .inl (g.2.1 1, 5, .inl f20)), (v, .inr (10, [.int (nI pp), .int (nI lc), .int de, .ref v3, .ref v4, .ref v5, .ref v6, .ref v7, .ref v8, .ref v9, .ref v10, .ref v11, .ref v12, .ref v13, .int gl, .ref v15])), (v9, .inl (g.2.1 1, 72, .inl L)), (v15, .inl (g.2.1 1, 7, .inl gq16))] := hW.pick [0, 1, 2, 3, 4] rfl rfl
                  exact ih1 (i + 1) f20 gq16 (by omega) (by omega) hgq16 _ _ _ hW (lv_sub hl [5, 6, 7, 0] rfl)
                · refine lv_iconst (v := 1) (pc := 142) hx hb dX3_goOn_142 (by decide) ?_
                  exact e_z X hQ hr hW (u := [(gs, .inr (3, [.ref v, .int al, .ref kn])), (kn, .inl (g.2.1 1, 5, .inl kq15)), (v, .inr (10, [.int (nI pp), .int (nI lc), .int de, .ref v3, .ref v4, .ref v5, .ref v6, .ref v7, .ref v8, .ref v9, .ref v10, .ref v11, .ref v12, .ref v13, .int gl, .ref v15])), (v9, .inl (g.2.1 1, 72, .inl L)), (v15, .inl (g.2.1 1, 7, .inl gq16))]) rfl [0, 1, 2, 3, 4] rfl rfl (⟨_, _, Or.inr rfl, hgq16, rfl⟩) ⟨Nat.le_of_ble_eq_true rfl, Nat.le_of_ble_eq_true rfl⟩ dX3_goOn_143
              · refine lv_goto (tgt := 162) (pc := 94) hx hb dX3_goOn_94 rfl ?_
                refine lv_iinc (v := nI (i + 1)) (lv' := [(3, .int (nI (i + 1))), (7, .int (kk (nI eb).toNatClampNeg)), (6, .int (kk (nI ea).toNatClampNeg)), (5, .int (nI eb)), (4, .int (nI ea)), (0, .ref gs), (1, .int 3), (2, .int (nI ca))]) (pc := 162) hx hb dX3_goOn_162 hl (k := 7) rfl ((nI_succ i).symm) (by decide) rfl (fun ls hl => ?_)
                refine lv_goto (tgt := 27) (pc := 165) hx hb dX3_goOn_165 rfl ?_
                have hW : WD g A s _ _ [(gs, .inr (3, [.ref v, .int al, .ref kn])), (kn, .inl (g.2.1 1, 5, .inl kk)), (v, .inr (10, [.int (nI pp), .int (nI lc), .int de, .ref v3, .ref v4, .ref v5, .ref v6, .ref v7, .ref v8, .ref v9, .ref v10, .ref v11, .ref v12, .ref v13, .int gl, .ref v15])), (v9, .inl (g.2.1 1, 72, .inl L)), (v15, .inl (g.2.1 1, 7, .inl gr))] := hW.pick [0, 1, 3, 4, 2] rfl rfl
                exact ih1 (i + 1) kk gr (by omega) (by omega) hgr _ _ _ hW (lv_sub hl [5, 6, 7, 0] rfl)
      exact loop1 (lc + 1) 0 kf gr0 (by omega) (Nat.zero_le _) hg0 _ _ _ hW (lv_sub hl [1, 2, 3, 0] rfl)
  · refine lv_iconst (v := 0) (pc := 10) hx hb dX3_goOn_10 (by decide) ?_
    exact e_z X hQ hr hW (u := [(gs, .inr (3, [.ref v, .int al, .ref kn])), (kn, .inl (g.2.1 1, 5, .inl kf)), (v, .inr (10, [.int (nI pp), .int (nI lc), .int de, .ref v3, .ref v4, .ref v5, .ref v6, .ref v7, .ref v8, .ref v9, .ref v10, .ref v11, .ref v12, .ref v13, .int gl, .ref v15])), (v9, .inl (g.2.1 1, 72, .inl L)), (v15, .inl (g.2.1 1, 7, .inl gr0))]) rfl [2, 3, 4, 0, 1] rfl rfl (⟨_, _, Or.inl rfl, hg0, rfl⟩) ⟨Nat.le_of_ble_eq_true rfl, Nat.le_of_ble_eq_true rfl⟩ dX3_goOn_11

set_option maxHeartbeats 4000000 in
set_option maxRecDepth 100000 in
theorem C_X3_goOn_2 (l : Launch) (g : GG) (gs kn : Nat) (al : Int32) (kf : Nat → Int32) (v v3 v4 v5 v6 v7 v8 v9 v10 v11 v12 v13 v15 : Nat) (de gl : Int32) (lc pp : Nat) (hlc : lc ≤ 12) (hpp : pp ≤ 5) (L gr0 : Nat → Int32) (ca : Nat) (hL : endsIn L lc pp) (hg0 : gb gr0) (hca : ca ≤ 7) : MetI l g yX3_goOn cX3_goOn 8 (some .boolean) 7 0 0 [.ref gs, .int 2, .int (nI ca)] [(gs, .inr (3, [.ref v, .int al, .ref kn])), (kn, .inl (g.2.1 1, 5, .inl kf)), (v, .inr (10, [.int (nI pp), .int (nI lc), .int de, .ref v3, .ref v4, .ref v5, .ref v6, .ref v7, .ref v8, .ref v9, .ref v10, .ref v11, .ref v12, .ref v13, .int gl, .ref v15])), (v9, .inl (g.2.1 1, 72, .inl L)), (v15, .inl (g.2.1 1, 7, .inl gr0))] (fun r u => ∃ kf' gr' : Nat → Int32, (r = 0 ∨ r = 1) ∧ gb gr' ∧ u = [(gs, .inr (3, [.ref v, .int al, .ref kn])), (kn, .inl (g.2.1 1, 5, .inl kf')), (v, .inr (10, [.int (nI pp), .int (nI lc), .int de, .ref v3, .ref v4, .ref v5, .ref v6, .ref v7, .ref v8, .ref v9, .ref v10, .ref v11, .ref v12, .ref v13, .int gl, .ref v15])), (v9, .inl (g.2.1 1, 72, .inl L)), (v15, .inl (g.2.1 1, 7, .inl gr'))]) := by
  refine MetI.of (own := RX3) rfl (by decide) (Nat.le_of_ble_eq_true rfl) ?_
  intro p e s m below meth c A ls args Q hQ X hr hin hW hl
  have hx := X.1
  have hb := X.2.1
  have hl : lv_has ls 8 [(0, .ref gs), (1, .int 2), (2, .int (nI ca))] := hl
  refine lv_aload_n (pc := 0) hx hb dX3_goOn_0 rfl (lv_at hl 0 rfl) ?_
  refine lv_iload_n (pc := 1) hx hb dX3_goOn_1 rfl (lv_at hl 2 rfl) ?_
  refine lv_iload_n (pc := 2) hx hb dX3_goOn_2 rfl (lv_at hl 1 rfl) ?_
  refine lv_isub (pc := 3) hx hb dX3_goOn_3 ?_
  refine c_Vi (pc := 4) (As := [.int ((nI ca) - 2)]) (rest := []) (wr := [(v9, .inl (g.2.1 1, 72, .inl L)), (v15, .inl (g.2.1 1, 7, .inl gr0))]) X hW 0 ciX3 rfl (C_X3_canEndG l g gs kn al kf v v3 v4 v5 v6 v7 v8 v9 v10 v11 v12 v13 v15 de gl lc pp hlc hpp ((nI ca) - 2)) vX3_54 [0, 1, 2] [3, 4] rfl rfl rfl rfl rfl rfl hl.1 rfl (Nat.le_of_ble_eq_true rfl) ⟨Nat.le_of_ble_eq_true rfl, Nat.le_of_ble_eq_true rfl⟩ ⟨Nat.le_of_ble_eq_true rfl, Nat.le_of_ble_eq_true rfl⟩ dX3_goOn_4 (fun r1 u9 H locs hq hW => ?_)
  obtain ⟨-, rfl⟩ := hq
  have hW : WD g A s _ _ [(v9, .inl (g.2.1 1, 72, .inl L)), (v15, .inl (g.2.1 1, 7, .inl gr0)), (gs, .inr (3, [.ref v, .int al, .ref kn])), (kn, .inl (g.2.1 1, 5, .inl kf)), (v, .inr (10, [.int (nI pp), .int (nI lc), .int de, .ref v3, .ref v4, .ref v5, .ref v6, .ref v7, .ref v8, .ref v9, .ref v10, .ref v11, .ref v12, .ref v13, .int gl, .ref v15]))] := hW
  refine lv_if_ne (tgt := 12) (pc := 7) hx hb dX3_goOn_7 rfl (fun c2 => ?_) (fun c2 => ?_)
  · refine lv_iload_n (pc := 12) hx hb dX3_goOn_12 rfl (lv_at hl 1 rfl) ?_
    refine lv_iload_n (pc := 13) hx hb dX3_goOn_13 rfl (lv_at hl 2 rfl) ?_
    refine lv_icmp_ge (tgt := 23) (pc := 14) hx hb dX3_goOn_14 rfl (fun c3 => ?_) (fun c3 => ?_)
    · refine lv_iconst (v := 1) (pc := 23) hx hb dX3_goOn_23 (by decide) ?_
      exact e_z X hQ hr hW (u := [(gs, .inr (3, [.ref v, .int al, .ref kn])), (kn, .inl (g.2.1 1, 5, .inl kf)), (v, .inr (10, [.int (nI pp), .int (nI lc), .int de, .ref v3, .ref v4, .ref v5, .ref v6, .ref v7, .ref v8, .ref v9, .ref v10, .ref v11, .ref v12, .ref v13, .int gl, .ref v15])), (v9, .inl (g.2.1 1, 72, .inl L)), (v15, .inl (g.2.1 1, 7, .inl gr0))]) rfl [2, 3, 4, 0, 1] rfl rfl (⟨_, _, Or.inr rfl, hg0, rfl⟩) ⟨Nat.le_of_ble_eq_true rfl, Nat.le_of_ble_eq_true rfl⟩ dX3_goOn_24
    · refine lv_iload_n (pc := 17) hx hb dX3_goOn_17 rfl (lv_at hl 1 rfl) ?_
      refine lv_bipush (v := 7) (pc := 18) hx hb dX3_goOn_18 (by decide) ?_
      refine lv_icmp_lt (tgt := 25) (pc := 20) hx hb dX3_goOn_20 rfl (fun c4 => ?_) (fun c4 => absurd (by decide) c4)
      refine lv_iconst (v := 0) (pc := 25) hx hb dX3_goOn_25 (by decide) ?_
      refine lv_istore_n (lv' := [(3, .int 0), (0, .ref gs), (1, .int 2), (2, .int (nI ca))]) (pc := 26) hx hb dX3_goOn_26 rfl hl (by decide) rfl (fun ls hl => ?_)
      have hW : WD g A s _ _ [(gs, .inr (3, [.ref v, .int al, .ref kn])), (kn, .inl (g.2.1 1, 5, .inl kf)), (v, .inr (10, [.int (nI pp), .int (nI lc), .int de, .ref v3, .ref v4, .ref v5, .ref v6, .ref v7, .ref v8, .ref v9, .ref v10, .ref v11, .ref v12, .ref v13, .int gl, .ref v15])), (v9, .inl (g.2.1 1, 72, .inl L)), (v15, .inl (g.2.1 1, 7, .inl gr0))] := hW.pick [2, 3, 4, 0, 1] rfl rfl
      have loop1 : ∀ (fu : Nat) (i : Nat) (kk : Nat → Int32) (gr : Nat → Int32), (lc < fu + i) → (i ≤ lc) → (gb gr) → ∀ (H : Heap) (locs : List Loc) (ls : Array Slot), WD g A s H locs [(gs, .inr (3, [.ref v, .int al, .ref kn])), (kn, .inl (g.2.1 1, 5, .inl kk)), (v, .inr (10, [.int (nI pp), .int (nI lc), .int de, .ref v3, .ref v4, .ref v5, .ref v6, .ref v7, .ref v8, .ref v9, .ref v10, .ref v11, .ref v12, .ref v13, .int gl, .ref v15])), (v9, .inl (g.2.1 1, 72, .inl L)), (v15, .inl (g.2.1 1, 7, .inl gr))] → lv_has ls 8 [(0, .ref gs), (1, .int 2), (2, .int (nI ca)), (3, .int (nI i))] → W p l e (RM 7 0 0) s m args below meth c H locs 0 0 Q (F0 m 27 ls []) := by
        intro fu
        induction fu with
        | zero =>
          intro i kk gr hm hi hgr
          exact absurd hm (by omega)
        | succ fu ih1 =>
          intro i kk gr hm hi hgr H locs ls hW hl
          refine lv_iload_n (pc := 27) hx hb dX3_goOn_27 rfl (lv_at hl 3 rfl) ?_
          refine lv_aload_n (pc := 28) hx hb dX3_goOn_28 rfl (lv_at hl 0 rfl) ?_
          refine r_get X hW 0 ciX3 0 rfl (by decide) m_196 rfl rfl dX3_goOn_29 ?_
          refine r_getN X hW 2 ciX10 1 rfl (by decide) m_283 rfl rfl dX3_goOn_32 ?_
          refine lv_icmp_ge (tgt := 168) (pc := 35) hx hb dX3_goOn_35 rfl (fun c5 => ?_) (fun c5 => ?_)
          · refine lv_iconst (v := 0) (pc := 168) hx hb dX3_goOn_168 (by decide) ?_
            exact e_z X hQ hr hW (u := [(gs, .inr (3, [.ref v, .int al, .ref kn])), (kn, .inl (g.2.1 1, 5, .inl kk)), (v, .inr (10, [.int (nI pp), .int (nI lc), .int de, .ref v3, .ref v4, .ref v5, .ref v6, .ref v7, .ref v8, .ref v9, .ref v10, .ref v11, .ref v12, .ref v13, .int gl, .ref v15])), (v9, .inl (g.2.1 1, 72, .inl L)), (v15, .inl (g.2.1 1, 7, .inl gr))]) rfl [0, 1, 2, 3, 4] rfl rfl (⟨_, _, Or.inl rfl, hgr, rfl⟩) ⟨Nat.le_of_ble_eq_true rfl, Nat.le_of_ble_eq_true rfl⟩ dX3_goOn_169
          · have hil : i < lc := ge_f (by omega) (by omega) c5
            obtain ⟨ea, eb, hea, heb, eA, eB⟩ := hL i hil
            refine lv_aload_n (pc := 38) hx hb dX3_goOn_38 rfl (lv_at hl 0 rfl) ?_
            refine r_get X hW 0 ciX3 0 rfl (by decide) m_196 rfl rfl dX3_goOn_39 ?_
            refine lv_iload_n (pc := 42) hx hb dX3_goOn_42 rfl (lv_at hl 3 rfl) ?_
            refine c_Vi (pc := 43) (As := [.int (nI i)]) (rest := []) (wr := [(gs, .inr (3, [.ref v, .int al, .ref kn])), (kn, .inl (g.2.1 1, 5, .inl kk)), (v15, .inl (g.2.1 1, 7, .inl gr))]) X hW 2 ciX10 rfl (C_X10_lineAG l g v v3 v4 v5 v6 v7 v8 v9 v10 v11 v12 v13 v15 (nI pp) (nI lc) de gl L i (by omega)) vX3_61 [2, 3] [0, 1, 4] rfl rfl rfl rfl rfl rfl hl.1 rfl (Nat.le_of_ble_eq_true rfl) ⟨Nat.le_of_ble_eq_true rfl, Nat.le_of_ble_eq_true rfl⟩ ⟨Nat.le_of_ble_eq_true rfl, Nat.le_of_ble_eq_true rfl⟩ dX3_goOn_43 (fun r6 u9 H locs hq hW => ?_)
            obtain ⟨rfl, rfl⟩ := hq
            have hW : WD g A s _ _ [(gs, .inr (3, [.ref v, .int al, .ref kn])), (kn, .inl (g.2.1 1, 5, .inl kk)), (v15, .inl (g.2.1 1, 7, .inl gr)), (v, .inr (10, [.int (nI pp), .int (nI lc), .int de, .ref v3, .ref v4, .ref v5, .ref v6, .ref v7, .ref v8, .ref v9, .ref v10, .ref v11, .ref v12, .ref v13, .int gl, .ref v15])), (v9, .inl (g.2.1 1, 72, .inl L))] := hW
            rw [eA]
            refine lv_istore (lv' := [(4, .int (nI ea)), (0, .ref gs), (1, .int 2), (2, .int (nI ca)), (3, .int (nI i))]) (pc := 46) hx hb dX3_goOn_46 hl (by decide) rfl (fun ls hl => ?_)
            refine lv_aload_n (pc := 48) hx hb dX3_goOn_48 rfl (lv_at hl 1 rfl) ?_
            refine r_get X hW 0 ciX3 0 rfl (by decide) m_196 rfl rfl dX3_goOn_49 ?_
            refine lv_iload_n (pc := 52) hx hb dX3_goOn_52 rfl (lv_at hl 4 rfl) ?_
            refine c_Vi (pc := 53) (As := [.int (nI i)]) (rest := []) (wr := [(gs, .inr (3, [.ref v, .int al, .ref kn])), (kn, .inl (g.2.1 1, 5, .inl kk)), (v15, .inl (g.2.1 1, 7, .inl gr))]) X hW 3 ciX10 rfl (C_X10_lineBG l g v v3 v4 v5 v6 v7 v8 v9 v10 v11 v12 v13 v15 (nI pp) (nI lc) de gl L i (by omega)) vX3_64 [3, 4] [0, 1, 2] rfl rfl rfl rfl rfl rfl hl.1 rfl (Nat.le_of_ble_eq_true rfl) ⟨Nat.le_of_ble_eq_true rfl, Nat.le_of_ble_eq_true rfl⟩ ⟨Nat.le_of_ble_eq_true rfl, Nat.le_of_ble_eq_true rfl⟩ dX3_goOn_53 (fun r7 u9 H locs hq hW => ?_)
            obtain ⟨rfl, rfl⟩ := hq
            have hW : WD g A s _ _ [(gs, .inr (3, [.ref v, .int al, .ref kn])), (kn, .inl (g.2.1 1, 5, .inl kk)), (v15, .inl (g.2.1 1, 7, .inl gr)), (v, .inr (10, [.int (nI pp), .int (nI lc), .int de, .ref v3, .ref v4, .ref v5, .ref v6, .ref v7, .ref v8, .ref v9, .ref v10, .ref v11, .ref v12, .ref v13, .int gl, .ref v15])), (v9, .inl (g.2.1 1, 72, .inl L))] := hW
            rw [eB]
            refine lv_istore (lv' := [(5, .int (nI eb)), (4, .int (nI ea)), (0, .ref gs), (1, .int 2), (2, .int (nI ca)), (3, .int (nI i))]) (pc := 56) hx hb dX3_goOn_56 hl (by decide) rfl (fun ls hl => ?_)
            refine lv_aload_n (pc := 58) hx hb dX3_goOn_58 rfl (lv_at hl 2 rfl) ?_
            refine r_get X hW 0 ciX3 2 rfl (by decide) m_198 rfl rfl dX3_goOn_59 ?_
            refine lv_iload (pc := 62) hx hb dX3_goOn_62 (lv_at hl 1 rfl) ?_
            refine r_iald X hW 1 rfl (vp_in_nI (by omega) (by decide)) dX3_goOn_64 ?_
            refine lv_istore (lv' := [(6, .int (kk (nI ea).toNatClampNeg)), (5, .int (nI eb)), (4, .int (nI ea)), (0, .ref gs), (1, .int 2), (2, .int (nI ca)), (3, .int (nI i))]) (pc := 65) hx hb dX3_goOn_65 hl (by decide) rfl (fun ls hl => ?_)
            refine lv_aload_n (pc := 67) hx hb dX3_goOn_67 rfl (lv_at hl 3 rfl) ?_
            refine r_get X hW 0 ciX3 2 rfl (by decide) m_198 rfl rfl dX3_goOn_68 ?_
            refine lv_iload (pc := 71) hx hb dX3_goOn_71 (lv_at hl 1 rfl) ?_
            refine r_iald X hW 1 rfl (vp_in_nI (by omega) (by decide)) dX3_goOn_73 ?_
            refine lv_istore (lv' := [(7, .int (kk (nI eb).toNatClampNeg)), (6, .int (kk (nI ea).toNatClampNeg)), (5, .int (nI eb)), (4, .int (nI ea)), (0, .ref gs), (1, .int 2), (2, .int (nI ca)), (3, .int (nI i))]) (pc := 74) hx hb dX3_goOn_74 hl (by decide) rfl (fun ls hl => ?_)
            refine lv_aload_n (pc := 76) hx hb dX3_goOn_76 rfl (lv_at hl 4 rfl) ?_
            refine r_get X hW 0 ciX3 0 rfl (by decide) m_196 rfl rfl dX3_goOn_77 ?_
            refine lv_iload_n (pc := 80) hx hb dX3_goOn_80 rfl (lv_at hl 7 rfl) ?_
            refine c_Vi (pc := 81) (As := [.int (nI i)]) (rest := []) (wr := [(gs, .inr (3, [.ref v, .int al, .ref kn])), (kn, .inl (g.2.1 1, 5, .inl kk)), (v15, .inl (g.2.1 1, 7, .inl gr))]) X hW 3 ciX10 rfl (C_X10_isOneWayG l g v v3 v4 v5 v6 v7 v8 v9 v10 v11 v12 v13 v15 (nI pp) (nI lc) de gl L i (by omega)) vX3_67 [3, 4] [0, 1, 2] rfl rfl rfl rfl rfl rfl hl.1 rfl (Nat.le_of_ble_eq_true rfl) ⟨Nat.le_of_ble_eq_true rfl, Nat.le_of_ble_eq_true rfl⟩ ⟨Nat.le_of_ble_eq_true rfl, Nat.le_of_ble_eq_true rfl⟩ dX3_goOn_81 (fun r8 u9 H locs hq hW => ?_)
            obtain ⟨rfl, rfl⟩ := hq
            have hW : WD g A s _ _ [(gs, .inr (3, [.ref v, .int al, .ref kn])), (kn, .inl (g.2.1 1, 5, .inl kk)), (v15, .inl (g.2.1 1, 7, .inl gr)), (v, .inr (10, [.int (nI pp), .int (nI lc), .int de, .ref v3, .ref v4, .ref v5, .ref v6, .ref v7, .ref v8, .ref v9, .ref v10, .ref v11, .ref v12, .ref v13, .int gl, .ref v15])), (v9, .inl (g.2.1 1, 72, .inl L))] := hW
            refine lv_if_ne (tgt := 162) (pc := 84) hx hb dX3_goOn_84 rfl (fun c9 => ?_) (fun c9 => ?_)
            · refine lv_iinc (v := nI (i + 1)) (lv' := [(3, .int (nI (i + 1))), (7, .int (kk (nI eb).toNatClampNeg)), (6, .int (kk (nI ea).toNatClampNeg)), (5, .int (nI eb)), (4, .int (nI ea)), (0, .ref gs), (1, .int 2), (2, .int (nI ca))]) (pc := 162) hx hb dX3_goOn_162 hl (k := 7) rfl ((nI_succ i).symm) (by decide) rfl (fun ls hl => ?_)
              refine lv_goto (tgt := 27) (pc := 165) hx hb dX3_goOn_165 rfl ?_
              have hW : WD g A s _ _ [(gs, .inr (3, [.ref v, .int al, .ref kn])), (kn, .inl (g.2.1 1, 5, .inl kk)), (v, .inr (10, [.int (nI pp), .int (nI lc), .int de, .ref v3, .ref v4, .ref v5, .ref v6, .ref v7, .ref v8, .ref v9, .ref v10, .ref v11, .ref v12, .ref v13, .int gl, .ref v15])), (v9, .inl (g.2.1 1, 72, .inl L)), (v15, .inl (g.2.1 1, 7, .inl gr))] := hW.pick [0, 1, 3, 4, 2] rfl rfl
              exact ih1 (i + 1) kk gr (by omega) (by omega) hgr _ _ _ hW (lv_sub hl [5, 6, 7, 0] rfl)
            · refine lv_iload (pc := 87) hx hb dX3_goOn_87 (lv_at hl 1 rfl) ?_
              refine lv_iload (pc := 89) hx hb dX3_goOn_89 (lv_at hl 0 rfl) ?_
              refine lv_icmp_ne (tgt := 97) (pc := 91) hx hb dX3_goOn_91 rfl (fun c10 => ?_) (fun c10 => ?_)
              · refine lv_aload_n (pc := 97) hx hb dX3_goOn_97 rfl (lv_at hl 4 rfl) ?_
                refine r_get X hW 0 ciX3 2 rfl (by decide) m_198 rfl rfl dX3_goOn_98 ?_
                refine lv_iload (pc := 101) hx hb dX3_goOn_101 (lv_at hl 3 rfl) ?_
                refine lv_iload (pc := 103) hx hb dX3_goOn_103 (lv_at hl 1 rfl) ?_
                refine lv_iload (pc := 105) hx hb dX3_goOn_105 (lv_at hl 0 rfl) ?_
                refine lv_ior (pc := 107) hx hb dX3_goOn_107 ?_
                obtain ⟨f11, ef11⟩ : ∃ fz : Nat → Int32, upd kk (nI ea).toNatClampNeg ((kk (nI ea).toNatClampNeg) ||| (kk (nI eb).toNatClampNeg)) = fz := ⟨_, rfl⟩
                refine r_iast (ws' := [(gs, .inr (3, [.ref v, .int al, .ref kn])), (kn, .inl (g.2.1 1, 5, .inl f11)), (v15, .inl (g.2.1 1, 7, .inl gr)), (v, .inr (10, [.int (nI pp), .int (nI lc), .int de, .ref v3, .ref v4, .ref v5, .ref v6, .ref v7, .ref v8, .ref v9, .ref v10, .ref v11, .ref v12, .ref v13, .int gl, .ref v15])), (v9, .inl (g.2.1 1, 72, .inl L))]) X hW 1 rfl (vp_in_nI (by omega) (by decide)) ef11 rfl dX3_goOn_108 (fun H locs hW => ?_)
                refine lv_aload_n (pc := 109) hx hb dX3_goOn_109 rfl (lv_at hl 4 rfl) ?_
                refine r_get X hW 0 ciX3 2 rfl (by decide) m_198 rfl rfl dX3_goOn_110 ?_
                refine lv_iload (pc := 113) hx hb dX3_goOn_113 (lv_at hl 2 rfl) ?_
                refine lv_iload (pc := 115) hx hb dX3_goOn_115 (lv_at hl 1 rfl) ?_
                refine lv_iload (pc := 117) hx hb dX3_goOn_117 (lv_at hl 0 rfl) ?_
                refine lv_ior (pc := 119) hx hb dX3_goOn_119 ?_
                obtain ⟨f12, ef12⟩ : ∃ fz : Nat → Int32, upd f11 (nI eb).toNatClampNeg ((kk (nI ea).toNatClampNeg) ||| (kk (nI eb).toNatClampNeg)) = fz := ⟨_, rfl⟩
                refine r_iast (ws' := [(gs, .inr (3, [.ref v, .int al, .ref kn])), (kn, .inl (g.2.1 1, 5, .inl f12)), (v15, .inl (g.2.1 1, 7, .inl gr)), (v, .inr (10, [.int (nI pp), .int (nI lc), .int de, .ref v3, .ref v4, .ref v5, .ref v6, .ref v7, .ref v8, .ref v9, .ref v10, .ref v11, .ref v12, .ref v13, .int gl, .ref v15])), (v9, .inl (g.2.1 1, 72, .inl L))]) X hW 1 rfl (vp_in_nI (by omega) (by decide)) ef12 rfl dX3_goOn_120 (fun H locs hW => ?_)
                refine lv_aload_n (pc := 121) hx hb dX3_goOn_121 rfl (lv_at hl 4 rfl) ?_
                refine r_get X hW 0 ciX3 0 rfl (by decide) m_196 rfl rfl dX3_goOn_122 ?_
                refine r_getN X hW 3 ciX10 15 rfl (by decide) m_318 rfl rfl dX3_goOn_125 ?_
                refine lv_iload_n (pc := 128) hx hb dX3_goOn_128 rfl (lv_at hl 5 rfl) ?_
                refine lv_iload_n (pc := 129) hx hb dX3_goOn_129 rfl (lv_at hl 7 rfl) ?_
                obtain ⟨f13, ef13⟩ : ∃ fz : Nat → Int32, upd gr (2 : Int32).toNatClampNeg (nI i) = fz := ⟨_, rfl⟩
                refine r_iast (ws' := [(gs, .inr (3, [.ref v, .int al, .ref kn])), (kn, .inl (g.2.1 1, 5, .inl f12)), (v15, .inl (g.2.1 1, 7, .inl f13)), (v, .inr (10, [.int (nI pp), .int (nI lc), .int de, .ref v3, .ref v4, .ref v5, .ref v6, .ref v7, .ref v8, .ref v9, .ref v10, .ref v11, .ref v12, .ref v13, .int gl, .ref v15])), (v9, .inl (g.2.1 1, 72, .inl L))]) X hW 2 rfl (by unfold vp_in; decide) ef13 rfl dX3_goOn_130 (fun H locs hW => ?_)
                have hg_f13 : gb f13 := by rw [← ef13]; exact gb_upd hgr (by omega)
                refine lv_aload_n (pc := 131) hx hb dX3_goOn_131 rfl (lv_at hl 4 rfl) ?_
                refine lv_iload_n (pc := 132) hx hb dX3_goOn_132 rfl (lv_at hl 5 rfl) ?_
                refine lv_iconst (v := 1) (pc := 133) hx hb dX3_goOn_133 (by decide) ?_
                refine lv_iadd (pc := 134) hx hb dX3_goOn_134 ?_
                refine lv_topi (fun uv14 euv14 => ?_)
                obtain rfl : uv14 = 3 := euv14.trans (by decide +kernel)
                refine lv_iload_n (pc := 135) hx hb dX3_goOn_135 rfl (lv_at hl 6 rfl) ?_
                refine c_Vi (pc := 136) (As := [.int 3, .int (nI ca)]) (rest := []) (wr := []) X hW 0 ciX3 rfl (C_X3_goOn_3 l g gs kn al f12 v v3 v4 v5 v6 v7 v8 v9 v10 v11 v12 v13 v15 de gl lc pp hlc hpp L f13 ca hL hg_f13 hca) vX3_50 [0, 1, 3, 4, 2] [] rfl rfl rfl rfl rfl rfl hl.1 rfl (Nat.le_of_ble_eq_true rfl) ⟨Nat.le_of_ble_eq_true rfl, Nat.le_of_ble_eq_true rfl⟩ ⟨Nat.le_of_ble_eq_true rfl, Nat.le_of_ble_eq_true rfl⟩ dX3_goOn_136 (fun r17 u9 H locs hq hW => ?_)
                obtain ⟨kq15, gq16, -, hgq16, rfl⟩ := hq
                have hW : WD g A s _ _ [(gs, .inr (3, [.ref v, .int al, .ref kn])), (kn, .inl (g.2.1 1, 5, .inl kq15)), (v, .inr (10, [.int (nI pp), .int (nI lc), .int de, .ref v3, .ref v4, .ref v5, .ref v6, .ref v7, .ref v8, .ref v9, .ref v10, .ref v11, .ref v12, .ref v13, .int gl, .ref v15])), (v9, .inl (g.2.1 1, 72, .inl L)), (v15, .inl (g.2.1 1, 7, .inl gq16))] := hW
                refine lv_if_eq (tgt := 144) (pc := 139) hx hb dX3_goOn_139 rfl (fun c18 => ?_) (fun c18 => ?_)
                · refine lv_aload_n (pc := 144) hx hb dX3_goOn_144 rfl (lv_at hl 4 rfl) ?_
                  refine r_get X hW 0 ciX3 2 rfl (by decide) m_198 rfl rfl dX3_goOn_145 ?_
                  refine lv_iload (pc := 148) hx hb dX3_goOn_148 (lv_at hl 3 rfl) ?_
                  refine lv_iload (pc := 150) hx hb dX3_goOn_150 (lv_at hl 1 rfl) ?_
                  obtain ⟨f19, ef19⟩ : ∃ fz : Nat → Int32, upd kq15 (nI ea).toNatClampNeg (kk (nI ea).toNatClampNeg) = fz := ⟨_, rfl⟩
                  refine r_iast (ws' := [(gs, .inr (3, [.ref v, .int al, .ref kn])), (kn, .inl (g.2.1 1, 5, .inl f19)), (v, .inr (10, [.int (nI pp), .int (nI lc), .int de, .ref v3, .ref v4, .ref v5, .ref v6, .ref v7, .ref v8, .ref v9, .ref v10, .ref v11, .ref v12, .ref v13, .int gl, .ref v15])), (v9, .inl (g.2.1 1, 72, .inl L)), (v15, .inl (g.2.1 1, 7, .inl gq16))]) X hW 1 rfl (vp_in_nI (by omega) (by decide)) ef19 rfl dX3_goOn_152 (fun H locs hW => ?_)
                  refine lv_aload_n (pc := 153) hx hb dX3_goOn_153 rfl (lv_at hl 4 rfl) ?_
                  refine r_get X hW 0 ciX3 2 rfl (by decide) m_198 rfl rfl dX3_goOn_154 ?_
                  refine lv_iload (pc := 157) hx hb dX3_goOn_157 (lv_at hl 2 rfl) ?_
                  refine lv_iload (pc := 159) hx hb dX3_goOn_159 (lv_at hl 0 rfl) ?_
                  obtain ⟨f20, ef20⟩ : ∃ fz : Nat → Int32, upd f19 (nI eb).toNatClampNeg (kk (nI eb).toNatClampNeg) = fz := ⟨_, rfl⟩
                  refine r_iast (ws' := [(gs, .inr (3, [.ref v, .int al, .ref kn])), (kn, .inl (g.2.1 1, 5, .inl f20)), (v, .inr (10, [.int (nI pp), .int (nI lc), .int de, .ref v3, .ref v4, .ref v5, .ref v6, .ref v7, .ref v8, .ref v9, .ref v10, .ref v11, .ref v12, .ref v13, .int gl, .ref v15])), (v9, .inl (g.2.1 1, 72, .inl L)), (v15, .inl (g.2.1 1, 7, .inl gq16))]) X hW 1 rfl (vp_in_nI (by omega) (by decide)) ef20 rfl dX3_goOn_161 (fun H locs hW => ?_)
                  refine lv_iinc (v := nI (i + 1)) (lv' := [(3, .int (nI (i + 1))), (7, .int (kk (nI eb).toNatClampNeg)), (6, .int (kk (nI ea).toNatClampNeg)), (5, .int (nI eb)), (4, .int (nI ea)), (0, .ref gs), (1, .int 2), (2, .int (nI ca))]) (pc := 162) hx hb dX3_goOn_162 hl (k := 7) rfl ((nI_succ i).symm) (by decide) rfl (fun ls hl => ?_)
                  refine lv_goto (tgt := 27) (pc := 165) hx hb dX3_goOn_165 rfl ?_
                  have hW : WD g A s _ _ [(gs, .inr (3, [.ref v, .int al, .ref kn])), (kn, .inl (g.2.1 1, 5, .inl f20)), (v, .inr (10, [.int (nI pp), .int (nI lc), .int de, .ref v3, .ref v4, .ref v5, .ref v6, .ref v7, .ref v8, .ref v9, .ref v10, .ref v11, .ref v12, .ref v13, .int gl, .ref v15])), (v9, .inl (g.2.1 1, 72, .inl L)), (v15, .inl (g.2.1 1, 7, .inl gq16))] := hW.pick [0, 1, 2, 3, 4] rfl rfl
                  exact ih1 (i + 1) f20 gq16 (by omega) (by omega) hgq16 _ _ _ hW (lv_sub hl [5, 6, 7, 0] rfl)
                · refine lv_iconst (v := 1) (pc := 142) hx hb dX3_goOn_142 (by decide) ?_
                  exact e_z X hQ hr hW (u := [(gs, .inr (3, [.ref v, .int al, .ref kn])), (kn, .inl (g.2.1 1, 5, .inl kq15)), (v, .inr (10, [.int (nI pp), .int (nI lc), .int de, .ref v3, .ref v4, .ref v5, .ref v6, .ref v7, .ref v8, .ref v9, .ref v10, .ref v11, .ref v12, .ref v13, .int gl, .ref v15])), (v9, .inl (g.2.1 1, 72, .inl L)), (v15, .inl (g.2.1 1, 7, .inl gq16))]) rfl [0, 1, 2, 3, 4] rfl rfl (⟨_, _, Or.inr rfl, hgq16, rfl⟩) ⟨Nat.le_of_ble_eq_true rfl, Nat.le_of_ble_eq_true rfl⟩ dX3_goOn_143
              · refine lv_goto (tgt := 162) (pc := 94) hx hb dX3_goOn_94 rfl ?_
                refine lv_iinc (v := nI (i + 1)) (lv' := [(3, .int (nI (i + 1))), (7, .int (kk (nI eb).toNatClampNeg)), (6, .int (kk (nI ea).toNatClampNeg)), (5, .int (nI eb)), (4, .int (nI ea)), (0, .ref gs), (1, .int 2), (2, .int (nI ca))]) (pc := 162) hx hb dX3_goOn_162 hl (k := 7) rfl ((nI_succ i).symm) (by decide) rfl (fun ls hl => ?_)
                refine lv_goto (tgt := 27) (pc := 165) hx hb dX3_goOn_165 rfl ?_
                have hW : WD g A s _ _ [(gs, .inr (3, [.ref v, .int al, .ref kn])), (kn, .inl (g.2.1 1, 5, .inl kk)), (v, .inr (10, [.int (nI pp), .int (nI lc), .int de, .ref v3, .ref v4, .ref v5, .ref v6, .ref v7, .ref v8, .ref v9, .ref v10, .ref v11, .ref v12, .ref v13, .int gl, .ref v15])), (v9, .inl (g.2.1 1, 72, .inl L)), (v15, .inl (g.2.1 1, 7, .inl gr))] := hW.pick [0, 1, 3, 4, 2] rfl rfl
                exact ih1 (i + 1) kk gr (by omega) (by omega) hgr _ _ _ hW (lv_sub hl [5, 6, 7, 0] rfl)
      exact loop1 (lc + 1) 0 kf gr0 (by omega) (Nat.zero_le _) hg0 _ _ _ hW (lv_sub hl [1, 2, 3, 0] rfl)
  · refine lv_iconst (v := 0) (pc := 10) hx hb dX3_goOn_10 (by decide) ?_
    exact e_z X hQ hr hW (u := [(gs, .inr (3, [.ref v, .int al, .ref kn])), (kn, .inl (g.2.1 1, 5, .inl kf)), (v, .inr (10, [.int (nI pp), .int (nI lc), .int de, .ref v3, .ref v4, .ref v5, .ref v6, .ref v7, .ref v8, .ref v9, .ref v10, .ref v11, .ref v12, .ref v13, .int gl, .ref v15])), (v9, .inl (g.2.1 1, 72, .inl L)), (v15, .inl (g.2.1 1, 7, .inl gr0))]) rfl [2, 3, 4, 0, 1] rfl rfl (⟨_, _, Or.inl rfl, hg0, rfl⟩) ⟨Nat.le_of_ble_eq_true rfl, Nat.le_of_ble_eq_true rfl⟩ dX3_goOn_11

set_option maxHeartbeats 4000000 in
set_option maxRecDepth 100000 in
theorem C_X3_goOn_1 (l : Launch) (g : GG) (gs kn : Nat) (al : Int32) (kf : Nat → Int32) (v v3 v4 v5 v6 v7 v8 v9 v10 v11 v12 v13 v15 : Nat) (de gl : Int32) (lc pp : Nat) (hlc : lc ≤ 12) (hpp : pp ≤ 5) (L gr0 : Nat → Int32) (ca : Nat) (hL : endsIn L lc pp) (hg0 : gb gr0) (hca : ca ≤ 7) : MetI l g yX3_goOn cX3_goOn 8 (some .boolean) 8 0 0 [.ref gs, .int 1, .int (nI ca)] [(gs, .inr (3, [.ref v, .int al, .ref kn])), (kn, .inl (g.2.1 1, 5, .inl kf)), (v, .inr (10, [.int (nI pp), .int (nI lc), .int de, .ref v3, .ref v4, .ref v5, .ref v6, .ref v7, .ref v8, .ref v9, .ref v10, .ref v11, .ref v12, .ref v13, .int gl, .ref v15])), (v9, .inl (g.2.1 1, 72, .inl L)), (v15, .inl (g.2.1 1, 7, .inl gr0))] (fun r u => ∃ kf' gr' : Nat → Int32, (r = 0 ∨ r = 1) ∧ gb gr' ∧ u = [(gs, .inr (3, [.ref v, .int al, .ref kn])), (kn, .inl (g.2.1 1, 5, .inl kf')), (v, .inr (10, [.int (nI pp), .int (nI lc), .int de, .ref v3, .ref v4, .ref v5, .ref v6, .ref v7, .ref v8, .ref v9, .ref v10, .ref v11, .ref v12, .ref v13, .int gl, .ref v15])), (v9, .inl (g.2.1 1, 72, .inl L)), (v15, .inl (g.2.1 1, 7, .inl gr'))]) := by
  refine MetI.of (own := RX3) rfl (by decide) (Nat.le_of_ble_eq_true rfl) ?_
  intro p e s m below meth c A ls args Q hQ X hr hin hW hl
  have hx := X.1
  have hb := X.2.1
  have hl : lv_has ls 8 [(0, .ref gs), (1, .int 1), (2, .int (nI ca))] := hl
  refine lv_aload_n (pc := 0) hx hb dX3_goOn_0 rfl (lv_at hl 0 rfl) ?_
  refine lv_iload_n (pc := 1) hx hb dX3_goOn_1 rfl (lv_at hl 2 rfl) ?_
  refine lv_iload_n (pc := 2) hx hb dX3_goOn_2 rfl (lv_at hl 1 rfl) ?_
  refine lv_isub (pc := 3) hx hb dX3_goOn_3 ?_
  refine c_Vi (pc := 4) (As := [.int ((nI ca) - 1)]) (rest := []) (wr := [(v9, .inl (g.2.1 1, 72, .inl L)), (v15, .inl (g.2.1 1, 7, .inl gr0))]) X hW 0 ciX3 rfl (C_X3_canEndG l g gs kn al kf v v3 v4 v5 v6 v7 v8 v9 v10 v11 v12 v13 v15 de gl lc pp hlc hpp ((nI ca) - 1)) vX3_54 [0, 1, 2] [3, 4] rfl rfl rfl rfl rfl rfl hl.1 rfl (Nat.le_of_ble_eq_true rfl) ⟨Nat.le_of_ble_eq_true rfl, Nat.le_of_ble_eq_true rfl⟩ ⟨Nat.le_of_ble_eq_true rfl, Nat.le_of_ble_eq_true rfl⟩ dX3_goOn_4 (fun r1 u9 H locs hq hW => ?_)
  obtain ⟨-, rfl⟩ := hq
  have hW : WD g A s _ _ [(v9, .inl (g.2.1 1, 72, .inl L)), (v15, .inl (g.2.1 1, 7, .inl gr0)), (gs, .inr (3, [.ref v, .int al, .ref kn])), (kn, .inl (g.2.1 1, 5, .inl kf)), (v, .inr (10, [.int (nI pp), .int (nI lc), .int de, .ref v3, .ref v4, .ref v5, .ref v6, .ref v7, .ref v8, .ref v9, .ref v10, .ref v11, .ref v12, .ref v13, .int gl, .ref v15]))] := hW
  refine lv_if_ne (tgt := 12) (pc := 7) hx hb dX3_goOn_7 rfl (fun c2 => ?_) (fun c2 => ?_)
  · refine lv_iload_n (pc := 12) hx hb dX3_goOn_12 rfl (lv_at hl 1 rfl) ?_
    refine lv_iload_n (pc := 13) hx hb dX3_goOn_13 rfl (lv_at hl 2 rfl) ?_
    refine lv_icmp_ge (tgt := 23) (pc := 14) hx hb dX3_goOn_14 rfl (fun c3 => ?_) (fun c3 => ?_)
    · refine lv_iconst (v := 1) (pc := 23) hx hb dX3_goOn_23 (by decide) ?_
      exact e_z X hQ hr hW (u := [(gs, .inr (3, [.ref v, .int al, .ref kn])), (kn, .inl (g.2.1 1, 5, .inl kf)), (v, .inr (10, [.int (nI pp), .int (nI lc), .int de, .ref v3, .ref v4, .ref v5, .ref v6, .ref v7, .ref v8, .ref v9, .ref v10, .ref v11, .ref v12, .ref v13, .int gl, .ref v15])), (v9, .inl (g.2.1 1, 72, .inl L)), (v15, .inl (g.2.1 1, 7, .inl gr0))]) rfl [2, 3, 4, 0, 1] rfl rfl (⟨_, _, Or.inr rfl, hg0, rfl⟩) ⟨Nat.le_of_ble_eq_true rfl, Nat.le_of_ble_eq_true rfl⟩ dX3_goOn_24
    · refine lv_iload_n (pc := 17) hx hb dX3_goOn_17 rfl (lv_at hl 1 rfl) ?_
      refine lv_bipush (v := 7) (pc := 18) hx hb dX3_goOn_18 (by decide) ?_
      refine lv_icmp_lt (tgt := 25) (pc := 20) hx hb dX3_goOn_20 rfl (fun c4 => ?_) (fun c4 => absurd (by decide) c4)
      refine lv_iconst (v := 0) (pc := 25) hx hb dX3_goOn_25 (by decide) ?_
      refine lv_istore_n (lv' := [(3, .int 0), (0, .ref gs), (1, .int 1), (2, .int (nI ca))]) (pc := 26) hx hb dX3_goOn_26 rfl hl (by decide) rfl (fun ls hl => ?_)
      have hW : WD g A s _ _ [(gs, .inr (3, [.ref v, .int al, .ref kn])), (kn, .inl (g.2.1 1, 5, .inl kf)), (v, .inr (10, [.int (nI pp), .int (nI lc), .int de, .ref v3, .ref v4, .ref v5, .ref v6, .ref v7, .ref v8, .ref v9, .ref v10, .ref v11, .ref v12, .ref v13, .int gl, .ref v15])), (v9, .inl (g.2.1 1, 72, .inl L)), (v15, .inl (g.2.1 1, 7, .inl gr0))] := hW.pick [2, 3, 4, 0, 1] rfl rfl
      have loop1 : ∀ (fu : Nat) (i : Nat) (kk : Nat → Int32) (gr : Nat → Int32), (lc < fu + i) → (i ≤ lc) → (gb gr) → ∀ (H : Heap) (locs : List Loc) (ls : Array Slot), WD g A s H locs [(gs, .inr (3, [.ref v, .int al, .ref kn])), (kn, .inl (g.2.1 1, 5, .inl kk)), (v, .inr (10, [.int (nI pp), .int (nI lc), .int de, .ref v3, .ref v4, .ref v5, .ref v6, .ref v7, .ref v8, .ref v9, .ref v10, .ref v11, .ref v12, .ref v13, .int gl, .ref v15])), (v9, .inl (g.2.1 1, 72, .inl L)), (v15, .inl (g.2.1 1, 7, .inl gr))] → lv_has ls 8 [(0, .ref gs), (1, .int 1), (2, .int (nI ca)), (3, .int (nI i))] → W p l e (RM 8 0 0) s m args below meth c H locs 0 0 Q (F0 m 27 ls []) := by
        intro fu
        induction fu with
        | zero =>
          intro i kk gr hm hi hgr
          exact absurd hm (by omega)
        | succ fu ih1 =>
          intro i kk gr hm hi hgr H locs ls hW hl
          refine lv_iload_n (pc := 27) hx hb dX3_goOn_27 rfl (lv_at hl 3 rfl) ?_
          refine lv_aload_n (pc := 28) hx hb dX3_goOn_28 rfl (lv_at hl 0 rfl) ?_
          refine r_get X hW 0 ciX3 0 rfl (by decide) m_196 rfl rfl dX3_goOn_29 ?_
          refine r_getN X hW 2 ciX10 1 rfl (by decide) m_283 rfl rfl dX3_goOn_32 ?_
          refine lv_icmp_ge (tgt := 168) (pc := 35) hx hb dX3_goOn_35 rfl (fun c5 => ?_) (fun c5 => ?_)
          · refine lv_iconst (v := 0) (pc := 168) hx hb dX3_goOn_168 (by decide) ?_
            exact e_z X hQ hr hW (u := [(gs, .inr (3, [.ref v, .int al, .ref kn])), (kn, .inl (g.2.1 1, 5, .inl kk)), (v, .inr (10, [.int (nI pp), .int (nI lc), .int de, .ref v3, .ref v4, .ref v5, .ref v6, .ref v7, .ref v8, .ref v9, .ref v10, .ref v11, .ref v12, .ref v13, .int gl, .ref v15])), (v9, .inl (g.2.1 1, 72, .inl L)), (v15, .inl (g.2.1 1, 7, .inl gr))]) rfl [0, 1, 2, 3, 4] rfl rfl (⟨_, _, Or.inl rfl, hgr, rfl⟩) ⟨Nat.le_of_ble_eq_true rfl, Nat.le_of_ble_eq_true rfl⟩ dX3_goOn_169
          · have hil : i < lc := ge_f (by omega) (by omega) c5
            obtain ⟨ea, eb, hea, heb, eA, eB⟩ := hL i hil
            refine lv_aload_n (pc := 38) hx hb dX3_goOn_38 rfl (lv_at hl 0 rfl) ?_
            refine r_get X hW 0 ciX3 0 rfl (by decide) m_196 rfl rfl dX3_goOn_39 ?_
            refine lv_iload_n (pc := 42) hx hb dX3_goOn_42 rfl (lv_at hl 3 rfl) ?_
            refine c_Vi (pc := 43) (As := [.int (nI i)]) (rest := []) (wr := [(gs, .inr (3, [.ref v, .int al, .ref kn])), (kn, .inl (g.2.1 1, 5, .inl kk)), (v15, .inl (g.2.1 1, 7, .inl gr))]) X hW 2 ciX10 rfl (C_X10_lineAG l g v v3 v4 v5 v6 v7 v8 v9 v10 v11 v12 v13 v15 (nI pp) (nI lc) de gl L i (by omega)) vX3_61 [2, 3] [0, 1, 4] rfl rfl rfl rfl rfl rfl hl.1 rfl (Nat.le_of_ble_eq_true rfl) ⟨Nat.le_of_ble_eq_true rfl, Nat.le_of_ble_eq_true rfl⟩ ⟨Nat.le_of_ble_eq_true rfl, Nat.le_of_ble_eq_true rfl⟩ dX3_goOn_43 (fun r6 u9 H locs hq hW => ?_)
            obtain ⟨rfl, rfl⟩ := hq
            have hW : WD g A s _ _ [(gs, .inr (3, [.ref v, .int al, .ref kn])), (kn, .inl (g.2.1 1, 5, .inl kk)), (v15, .inl (g.2.1 1, 7, .inl gr)), (v, .inr (10, [.int (nI pp), .int (nI lc), .int de, .ref v3, .ref v4, .ref v5, .ref v6, .ref v7, .ref v8, .ref v9, .ref v10, .ref v11, .ref v12, .ref v13, .int gl, .ref v15])), (v9, .inl (g.2.1 1, 72, .inl L))] := hW
            rw [eA]
            refine lv_istore (lv' := [(4, .int (nI ea)), (0, .ref gs), (1, .int 1), (2, .int (nI ca)), (3, .int (nI i))]) (pc := 46) hx hb dX3_goOn_46 hl (by decide) rfl (fun ls hl => ?_)
            refine lv_aload_n (pc := 48) hx hb dX3_goOn_48 rfl (lv_at hl 1 rfl) ?_
            refine r_get X hW 0 ciX3 0 rfl (by decide) m_196 rfl rfl dX3_goOn_49 ?_
            refine lv_iload_n (pc := 52) hx hb dX3_goOn_52 rfl (lv_at hl 4 rfl) ?_
            refine c_Vi (pc := 53) (As := [.int (nI i)]) (rest := []) (wr := [(gs, .inr (3, [.ref v, .int al, .ref kn])), (kn, .inl (g.2.1 1, 5, .inl kk)), (v15, .inl (g.2.1 1, 7, .inl gr))]) X hW 3 ciX10 rfl (C_X10_lineBG l g v v3 v4 v5 v6 v7 v8 v9 v10 v11 v12 v13 v15 (nI pp) (nI lc) de gl L i (by omega)) vX3_64 [3, 4] [0, 1, 2] rfl rfl rfl rfl rfl rfl hl.1 rfl (Nat.le_of_ble_eq_true rfl) ⟨Nat.le_of_ble_eq_true rfl, Nat.le_of_ble_eq_true rfl⟩ ⟨Nat.le_of_ble_eq_true rfl, Nat.le_of_ble_eq_true rfl⟩ dX3_goOn_53 (fun r7 u9 H locs hq hW => ?_)
            obtain ⟨rfl, rfl⟩ := hq
            have hW : WD g A s _ _ [(gs, .inr (3, [.ref v, .int al, .ref kn])), (kn, .inl (g.2.1 1, 5, .inl kk)), (v15, .inl (g.2.1 1, 7, .inl gr)), (v, .inr (10, [.int (nI pp), .int (nI lc), .int de, .ref v3, .ref v4, .ref v5, .ref v6, .ref v7, .ref v8, .ref v9, .ref v10, .ref v11, .ref v12, .ref v13, .int gl, .ref v15])), (v9, .inl (g.2.1 1, 72, .inl L))] := hW
            rw [eB]
            refine lv_istore (lv' := [(5, .int (nI eb)), (4, .int (nI ea)), (0, .ref gs), (1, .int 1), (2, .int (nI ca)), (3, .int (nI i))]) (pc := 56) hx hb dX3_goOn_56 hl (by decide) rfl (fun ls hl => ?_)
            refine lv_aload_n (pc := 58) hx hb dX3_goOn_58 rfl (lv_at hl 2 rfl) ?_
            refine r_get X hW 0 ciX3 2 rfl (by decide) m_198 rfl rfl dX3_goOn_59 ?_
            refine lv_iload (pc := 62) hx hb dX3_goOn_62 (lv_at hl 1 rfl) ?_
            refine r_iald X hW 1 rfl (vp_in_nI (by omega) (by decide)) dX3_goOn_64 ?_
            refine lv_istore (lv' := [(6, .int (kk (nI ea).toNatClampNeg)), (5, .int (nI eb)), (4, .int (nI ea)), (0, .ref gs), (1, .int 1), (2, .int (nI ca)), (3, .int (nI i))]) (pc := 65) hx hb dX3_goOn_65 hl (by decide) rfl (fun ls hl => ?_)
            refine lv_aload_n (pc := 67) hx hb dX3_goOn_67 rfl (lv_at hl 3 rfl) ?_
            refine r_get X hW 0 ciX3 2 rfl (by decide) m_198 rfl rfl dX3_goOn_68 ?_
            refine lv_iload (pc := 71) hx hb dX3_goOn_71 (lv_at hl 1 rfl) ?_
            refine r_iald X hW 1 rfl (vp_in_nI (by omega) (by decide)) dX3_goOn_73 ?_
            refine lv_istore (lv' := [(7, .int (kk (nI eb).toNatClampNeg)), (6, .int (kk (nI ea).toNatClampNeg)), (5, .int (nI eb)), (4, .int (nI ea)), (0, .ref gs), (1, .int 1), (2, .int (nI ca)), (3, .int (nI i))]) (pc := 74) hx hb dX3_goOn_74 hl (by decide) rfl (fun ls hl => ?_)
            refine lv_aload_n (pc := 76) hx hb dX3_goOn_76 rfl (lv_at hl 4 rfl) ?_
            refine r_get X hW 0 ciX3 0 rfl (by decide) m_196 rfl rfl dX3_goOn_77 ?_
            refine lv_iload_n (pc := 80) hx hb dX3_goOn_80 rfl (lv_at hl 7 rfl) ?_
            refine c_Vi (pc := 81) (As := [.int (nI i)]) (rest := []) (wr := [(gs, .inr (3, [.ref v, .int al, .ref kn])), (kn, .inl (g.2.1 1, 5, .inl kk)), (v15, .inl (g.2.1 1, 7, .inl gr))]) X hW 3 ciX10 rfl (C_X10_isOneWayG l g v v3 v4 v5 v6 v7 v8 v9 v10 v11 v12 v13 v15 (nI pp) (nI lc) de gl L i (by omega)) vX3_67 [3, 4] [0, 1, 2] rfl rfl rfl rfl rfl rfl hl.1 rfl (Nat.le_of_ble_eq_true rfl) ⟨Nat.le_of_ble_eq_true rfl, Nat.le_of_ble_eq_true rfl⟩ ⟨Nat.le_of_ble_eq_true rfl, Nat.le_of_ble_eq_true rfl⟩ dX3_goOn_81 (fun r8 u9 H locs hq hW => ?_)
            obtain ⟨rfl, rfl⟩ := hq
            have hW : WD g A s _ _ [(gs, .inr (3, [.ref v, .int al, .ref kn])), (kn, .inl (g.2.1 1, 5, .inl kk)), (v15, .inl (g.2.1 1, 7, .inl gr)), (v, .inr (10, [.int (nI pp), .int (nI lc), .int de, .ref v3, .ref v4, .ref v5, .ref v6, .ref v7, .ref v8, .ref v9, .ref v10, .ref v11, .ref v12, .ref v13, .int gl, .ref v15])), (v9, .inl (g.2.1 1, 72, .inl L))] := hW
            refine lv_if_ne (tgt := 162) (pc := 84) hx hb dX3_goOn_84 rfl (fun c9 => ?_) (fun c9 => ?_)
            · refine lv_iinc (v := nI (i + 1)) (lv' := [(3, .int (nI (i + 1))), (7, .int (kk (nI eb).toNatClampNeg)), (6, .int (kk (nI ea).toNatClampNeg)), (5, .int (nI eb)), (4, .int (nI ea)), (0, .ref gs), (1, .int 1), (2, .int (nI ca))]) (pc := 162) hx hb dX3_goOn_162 hl (k := 7) rfl ((nI_succ i).symm) (by decide) rfl (fun ls hl => ?_)
              refine lv_goto (tgt := 27) (pc := 165) hx hb dX3_goOn_165 rfl ?_
              have hW : WD g A s _ _ [(gs, .inr (3, [.ref v, .int al, .ref kn])), (kn, .inl (g.2.1 1, 5, .inl kk)), (v, .inr (10, [.int (nI pp), .int (nI lc), .int de, .ref v3, .ref v4, .ref v5, .ref v6, .ref v7, .ref v8, .ref v9, .ref v10, .ref v11, .ref v12, .ref v13, .int gl, .ref v15])), (v9, .inl (g.2.1 1, 72, .inl L)), (v15, .inl (g.2.1 1, 7, .inl gr))] := hW.pick [0, 1, 3, 4, 2] rfl rfl
              exact ih1 (i + 1) kk gr (by omega) (by omega) hgr _ _ _ hW (lv_sub hl [5, 6, 7, 0] rfl)
            · refine lv_iload (pc := 87) hx hb dX3_goOn_87 (lv_at hl 1 rfl) ?_
              refine lv_iload (pc := 89) hx hb dX3_goOn_89 (lv_at hl 0 rfl) ?_
              refine lv_icmp_ne (tgt := 97) (pc := 91) hx hb dX3_goOn_91 rfl (fun c10 => ?_) (fun c10 => ?_)
              · refine lv_aload_n (pc := 97) hx hb dX3_goOn_97 rfl (lv_at hl 4 rfl) ?_
                refine r_get X hW 0 ciX3 2 rfl (by decide) m_198 rfl rfl dX3_goOn_98 ?_
                refine lv_iload (pc := 101) hx hb dX3_goOn_101 (lv_at hl 3 rfl) ?_
                refine lv_iload (pc := 103) hx hb dX3_goOn_103 (lv_at hl 1 rfl) ?_
                refine lv_iload (pc := 105) hx hb dX3_goOn_105 (lv_at hl 0 rfl) ?_
                refine lv_ior (pc := 107) hx hb dX3_goOn_107 ?_
                obtain ⟨f11, ef11⟩ : ∃ fz : Nat → Int32, upd kk (nI ea).toNatClampNeg ((kk (nI ea).toNatClampNeg) ||| (kk (nI eb).toNatClampNeg)) = fz := ⟨_, rfl⟩
                refine r_iast (ws' := [(gs, .inr (3, [.ref v, .int al, .ref kn])), (kn, .inl (g.2.1 1, 5, .inl f11)), (v15, .inl (g.2.1 1, 7, .inl gr)), (v, .inr (10, [.int (nI pp), .int (nI lc), .int de, .ref v3, .ref v4, .ref v5, .ref v6, .ref v7, .ref v8, .ref v9, .ref v10, .ref v11, .ref v12, .ref v13, .int gl, .ref v15])), (v9, .inl (g.2.1 1, 72, .inl L))]) X hW 1 rfl (vp_in_nI (by omega) (by decide)) ef11 rfl dX3_goOn_108 (fun H locs hW => ?_)
                refine lv_aload_n (pc := 109) hx hb dX3_goOn_109 rfl (lv_at hl 4 rfl) ?_
                refine r_get X hW 0 ciX3 2 rfl (by decide) m_198 rfl rfl dX3_goOn_110 ?_
                refine lv_iload (pc := 113) hx hb dX3_goOn_113 (lv_at hl 2 rfl) ?_
                refine lv_iload (pc := 115) hx hb dX3_goOn_115 (lv_at hl 1 rfl) ?_
                refine lv_iload (pc := 117) hx hb dX3_goOn_117 (lv_at hl 0 rfl) ?_
                refine lv_ior (pc := 119) hx hb dX3_goOn_119 ?_
                obtain ⟨f12, ef12⟩ : ∃ fz : Nat → Int32, upd f11 (nI eb).toNatClampNeg ((kk (nI ea).toNatClampNeg) ||| (kk (nI eb).toNatClampNeg)) = fz := ⟨_, rfl⟩
                refine r_iast (ws' := [(gs, .inr (3, [.ref v, .int al, .ref kn])), (kn, .inl (g.2.1 1, 5, .inl f12)), (v15, .inl (g.2.1 1, 7, .inl gr)), (v, .inr (10, [.int (nI pp), .int (nI lc), .int de, .ref v3, .ref v4, .ref v5, .ref v6, .ref v7, .ref v8, .ref v9, .ref v10, .ref v11, .ref v12, .ref v13, .int gl, .ref v15])), (v9, .inl (g.2.1 1, 72, .inl L))]) X hW 1 rfl (vp_in_nI (by omega) (by decide)) ef12 rfl dX3_goOn_120 (fun H locs hW => ?_)
                refine lv_aload_n (pc := 121) hx hb dX3_goOn_121 rfl (lv_at hl 4 rfl) ?_
                refine r_get X hW 0 ciX3 0 rfl (by decide) m_196 rfl rfl dX3_goOn_122 ?_
                refine r_getN X hW 3 ciX10 15 rfl (by decide) m_318 rfl rfl dX3_goOn_125 ?_
                refine lv_iload_n (pc := 128) hx hb dX3_goOn_128 rfl (lv_at hl 5 rfl) ?_
                refine lv_iload_n (pc := 129) hx hb dX3_goOn_129 rfl (lv_at hl 7 rfl) ?_
                obtain ⟨f13, ef13⟩ : ∃ fz : Nat → Int32, upd gr (1 : Int32).toNatClampNeg (nI i) = fz := ⟨_, rfl⟩
                refine r_iast (ws' := [(gs, .inr (3, [.ref v, .int al, .ref kn])), (kn, .inl (g.2.1 1, 5, .inl f12)), (v15, .inl (g.2.1 1, 7, .inl f13)), (v, .inr (10, [.int (nI pp), .int (nI lc), .int de, .ref v3, .ref v4, .ref v5, .ref v6, .ref v7, .ref v8, .ref v9, .ref v10, .ref v11, .ref v12, .ref v13, .int gl, .ref v15])), (v9, .inl (g.2.1 1, 72, .inl L))]) X hW 2 rfl (by unfold vp_in; decide) ef13 rfl dX3_goOn_130 (fun H locs hW => ?_)
                have hg_f13 : gb f13 := by rw [← ef13]; exact gb_upd hgr (by omega)
                refine lv_aload_n (pc := 131) hx hb dX3_goOn_131 rfl (lv_at hl 4 rfl) ?_
                refine lv_iload_n (pc := 132) hx hb dX3_goOn_132 rfl (lv_at hl 5 rfl) ?_
                refine lv_iconst (v := 1) (pc := 133) hx hb dX3_goOn_133 (by decide) ?_
                refine lv_iadd (pc := 134) hx hb dX3_goOn_134 ?_
                refine lv_topi (fun uv14 euv14 => ?_)
                obtain rfl : uv14 = 2 := euv14.trans (by decide +kernel)
                refine lv_iload_n (pc := 135) hx hb dX3_goOn_135 rfl (lv_at hl 6 rfl) ?_
                refine c_Vi (pc := 136) (As := [.int 2, .int (nI ca)]) (rest := []) (wr := []) X hW 0 ciX3 rfl (C_X3_goOn_2 l g gs kn al f12 v v3 v4 v5 v6 v7 v8 v9 v10 v11 v12 v13 v15 de gl lc pp hlc hpp L f13 ca hL hg_f13 hca) vX3_50 [0, 1, 3, 4, 2] [] rfl rfl rfl rfl rfl rfl hl.1 rfl (Nat.le_of_ble_eq_true rfl) ⟨Nat.le_of_ble_eq_true rfl, Nat.le_of_ble_eq_true rfl⟩ ⟨Nat.le_of_ble_eq_true rfl, Nat.le_of_ble_eq_true rfl⟩ dX3_goOn_136 (fun r17 u9 H locs hq hW => ?_)
                obtain ⟨kq15, gq16, -, hgq16, rfl⟩ := hq
                have hW : WD g A s _ _ [(gs, .inr (3, [.ref v, .int al, .ref kn])), (kn, .inl (g.2.1 1, 5, .inl kq15)), (v, .inr (10, [.int (nI pp), .int (nI lc), .int de, .ref v3, .ref v4, .ref v5, .ref v6, .ref v7, .ref v8, .ref v9, .ref v10, .ref v11, .ref v12, .ref v13, .int gl, .ref v15])), (v9, .inl (g.2.1 1, 72, .inl L)), (v15, .inl (g.2.1 1, 7, .inl gq16))] := hW
                refine lv_if_eq (tgt := 144) (pc := 139) hx hb dX3_goOn_139 rfl (fun c18 => ?_) (fun c18 => ?_)
                · refine lv_aload_n (pc := 144) hx hb dX3_goOn_144 rfl (lv_at hl 4 rfl) ?_
                  refine r_get X hW 0 ciX3 2 rfl (by decide) m_198 rfl rfl dX3_goOn_145 ?_
                  refine lv_iload (pc := 148) hx hb dX3_goOn_148 (lv_at hl 3 rfl) ?_
                  refine lv_iload (pc := 150) hx hb dX3_goOn_150 (lv_at hl 1 rfl) ?_
                  obtain ⟨f19, ef19⟩ : ∃ fz : Nat → Int32, upd kq15 (nI ea).toNatClampNeg (kk (nI ea).toNatClampNeg) = fz := ⟨_, rfl⟩
                  refine r_iast (ws' := [(gs, .inr (3, [.ref v, .int al, .ref kn])), (kn, .inl (g.2.1 1, 5, .inl f19)), (v, .inr (10, [.int (nI pp), .int (nI lc), .int de, .ref v3, .ref v4, .ref v5, .ref v6, .ref v7, .ref v8, .ref v9, .ref v10, .ref v11, .ref v12, .ref v13, .int gl, .ref v15])), (v9, .inl (g.2.1 1, 72, .inl L)), (v15, .inl (g.2.1 1, 7, .inl gq16))]) X hW 1 rfl (vp_in_nI (by omega) (by decide)) ef19 rfl dX3_goOn_152 (fun H locs hW => ?_)
                  refine lv_aload_n (pc := 153) hx hb dX3_goOn_153 rfl (lv_at hl 4 rfl) ?_
                  refine r_get X hW 0 ciX3 2 rfl (by decide) m_198 rfl rfl dX3_goOn_154 ?_
                  refine lv_iload (pc := 157) hx hb dX3_goOn_157 (lv_at hl 2 rfl) ?_
                  refine lv_iload (pc := 159) hx hb dX3_goOn_159 (lv_at hl 0 rfl) ?_
                  obtain ⟨f20, ef20⟩ : ∃ fz : Nat → Int32, upd f19 (nI eb).toNatClampNeg (kk (nI eb).toNatClampNeg) = fz := ⟨_, rfl⟩
                  refine r_iast (ws' := [(gs, .inr (3, [.ref v, .int al, .ref kn])), (kn, .inl (g.2.1 1, 5, .inl f20)), (v, .inr (10, [.int (nI pp), .int (nI lc), .int de, .ref v3, .ref v4, .ref v5, .ref v6, .ref v7, .ref v8, .ref v9, .ref v10, .ref v11, .ref v12, .ref v13, .int gl, .ref v15])), (v9, .inl (g.2.1 1, 72, .inl L)), (v15, .inl (g.2.1 1, 7, .inl gq16))]) X hW 1 rfl (vp_in_nI (by omega) (by decide)) ef20 rfl dX3_goOn_161 (fun H locs hW => ?_)
                  refine lv_iinc (v := nI (i + 1)) (lv' := [(3, .int (nI (i + 1))), (7, .int (kk (nI eb).toNatClampNeg)), (6, .int (kk (nI ea).toNatClampNeg)), (5, .int (nI eb)), (4, .int (nI ea)), (0, .ref gs), (1, .int 1), (2, .int (nI ca))]) (pc := 162) hx hb dX3_goOn_162 hl (k := 7) rfl ((nI_succ i).symm) (by decide) rfl (fun ls hl => ?_)
                  refine lv_goto (tgt := 27) (pc := 165) hx hb dX3_goOn_165 rfl ?_
                  have hW : WD g A s _ _ [(gs, .inr (3, [.ref v, .int al, .ref kn])), (kn, .inl (g.2.1 1, 5, .inl f20)), (v, .inr (10, [.int (nI pp), .int (nI lc), .int de, .ref v3, .ref v4, .ref v5, .ref v6, .ref v7, .ref v8, .ref v9, .ref v10, .ref v11, .ref v12, .ref v13, .int gl, .ref v15])), (v9, .inl (g.2.1 1, 72, .inl L)), (v15, .inl (g.2.1 1, 7, .inl gq16))] := hW.pick [0, 1, 2, 3, 4] rfl rfl
                  exact ih1 (i + 1) f20 gq16 (by omega) (by omega) hgq16 _ _ _ hW (lv_sub hl [5, 6, 7, 0] rfl)
                · refine lv_iconst (v := 1) (pc := 142) hx hb dX3_goOn_142 (by decide) ?_
                  exact e_z X hQ hr hW (u := [(gs, .inr (3, [.ref v, .int al, .ref kn])), (kn, .inl (g.2.1 1, 5, .inl kq15)), (v, .inr (10, [.int (nI pp), .int (nI lc), .int de, .ref v3, .ref v4, .ref v5, .ref v6, .ref v7, .ref v8, .ref v9, .ref v10, .ref v11, .ref v12, .ref v13, .int gl, .ref v15])), (v9, .inl (g.2.1 1, 72, .inl L)), (v15, .inl (g.2.1 1, 7, .inl gq16))]) rfl [0, 1, 2, 3, 4] rfl rfl (⟨_, _, Or.inr rfl, hgq16, rfl⟩) ⟨Nat.le_of_ble_eq_true rfl, Nat.le_of_ble_eq_true rfl⟩ dX3_goOn_143
              · refine lv_goto (tgt := 162) (pc := 94) hx hb dX3_goOn_94 rfl ?_
                refine lv_iinc (v := nI (i + 1)) (lv' := [(3, .int (nI (i + 1))), (7, .int (kk (nI eb).toNatClampNeg)), (6, .int (kk (nI ea).toNatClampNeg)), (5, .int (nI eb)), (4, .int (nI ea)), (0, .ref gs), (1, .int 1), (2, .int (nI ca))]) (pc := 162) hx hb dX3_goOn_162 hl (k := 7) rfl ((nI_succ i).symm) (by decide) rfl (fun ls hl => ?_)
                refine lv_goto (tgt := 27) (pc := 165) hx hb dX3_goOn_165 rfl ?_
                have hW : WD g A s _ _ [(gs, .inr (3, [.ref v, .int al, .ref kn])), (kn, .inl (g.2.1 1, 5, .inl kk)), (v, .inr (10, [.int (nI pp), .int (nI lc), .int de, .ref v3, .ref v4, .ref v5, .ref v6, .ref v7, .ref v8, .ref v9, .ref v10, .ref v11, .ref v12, .ref v13, .int gl, .ref v15])), (v9, .inl (g.2.1 1, 72, .inl L)), (v15, .inl (g.2.1 1, 7, .inl gr))] := hW.pick [0, 1, 3, 4, 2] rfl rfl
                exact ih1 (i + 1) kk gr (by omega) (by omega) hgr _ _ _ hW (lv_sub hl [5, 6, 7, 0] rfl)
      exact loop1 (lc + 1) 0 kf gr0 (by omega) (Nat.zero_le _) hg0 _ _ _ hW (lv_sub hl [1, 2, 3, 0] rfl)
  · refine lv_iconst (v := 0) (pc := 10) hx hb dX3_goOn_10 (by decide) ?_
    exact e_z X hQ hr hW (u := [(gs, .inr (3, [.ref v, .int al, .ref kn])), (kn, .inl (g.2.1 1, 5, .inl kf)), (v, .inr (10, [.int (nI pp), .int (nI lc), .int de, .ref v3, .ref v4, .ref v5, .ref v6, .ref v7, .ref v8, .ref v9, .ref v10, .ref v11, .ref v12, .ref v13, .int gl, .ref v15])), (v9, .inl (g.2.1 1, 72, .inl L)), (v15, .inl (g.2.1 1, 7, .inl gr0))]) rfl [2, 3, 4, 0, 1] rfl rfl (⟨_, _, Or.inl rfl, hg0, rfl⟩) ⟨Nat.le_of_ble_eq_true rfl, Nat.le_of_ble_eq_true rfl⟩ dX3_goOn_11

set_option maxHeartbeats 4000000 in
set_option maxRecDepth 100000 in
theorem C_X3_goOn_0 (l : Launch) (g : GG) (gs kn : Nat) (al : Int32) (kf : Nat → Int32) (v v3 v4 v5 v6 v7 v8 v9 v10 v11 v12 v13 v15 : Nat) (de gl : Int32) (lc pp : Nat) (hlc : lc ≤ 12) (hpp : pp ≤ 5) (L gr0 : Nat → Int32) (ca : Nat) (hL : endsIn L lc pp) (hg0 : gb gr0) (hca : ca ≤ 7) : MetI l g yX3_goOn cX3_goOn 8 (some .boolean) 9 0 0 [.ref gs, .int 0, .int (nI ca)] [(gs, .inr (3, [.ref v, .int al, .ref kn])), (kn, .inl (g.2.1 1, 5, .inl kf)), (v, .inr (10, [.int (nI pp), .int (nI lc), .int de, .ref v3, .ref v4, .ref v5, .ref v6, .ref v7, .ref v8, .ref v9, .ref v10, .ref v11, .ref v12, .ref v13, .int gl, .ref v15])), (v9, .inl (g.2.1 1, 72, .inl L)), (v15, .inl (g.2.1 1, 7, .inl gr0))] (fun r u => ∃ kf' gr' : Nat → Int32, (r = 0 ∨ r = 1) ∧ gb gr' ∧ u = [(gs, .inr (3, [.ref v, .int al, .ref kn])), (kn, .inl (g.2.1 1, 5, .inl kf')), (v, .inr (10, [.int (nI pp), .int (nI lc), .int de, .ref v3, .ref v4, .ref v5, .ref v6, .ref v7, .ref v8, .ref v9, .ref v10, .ref v11, .ref v12, .ref v13, .int gl, .ref v15])), (v9, .inl (g.2.1 1, 72, .inl L)), (v15, .inl (g.2.1 1, 7, .inl gr'))]) := by
  refine MetI.of (own := RX3) rfl (by decide) (Nat.le_of_ble_eq_true rfl) ?_
  intro p e s m below meth c A ls args Q hQ X hr hin hW hl
  have hx := X.1
  have hb := X.2.1
  have hl : lv_has ls 8 [(0, .ref gs), (1, .int 0), (2, .int (nI ca))] := hl
  refine lv_aload_n (pc := 0) hx hb dX3_goOn_0 rfl (lv_at hl 0 rfl) ?_
  refine lv_iload_n (pc := 1) hx hb dX3_goOn_1 rfl (lv_at hl 2 rfl) ?_
  refine lv_iload_n (pc := 2) hx hb dX3_goOn_2 rfl (lv_at hl 1 rfl) ?_
  refine lv_isub (pc := 3) hx hb dX3_goOn_3 ?_
  refine c_Vi (pc := 4) (As := [.int ((nI ca) - 0)]) (rest := []) (wr := [(v9, .inl (g.2.1 1, 72, .inl L)), (v15, .inl (g.2.1 1, 7, .inl gr0))]) X hW 0 ciX3 rfl (C_X3_canEndG l g gs kn al kf v v3 v4 v5 v6 v7 v8 v9 v10 v11 v12 v13 v15 de gl lc pp hlc hpp ((nI ca) - 0)) vX3_54 [0, 1, 2] [3, 4] rfl rfl rfl rfl rfl rfl hl.1 rfl (Nat.le_of_ble_eq_true rfl) ⟨Nat.le_of_ble_eq_true rfl, Nat.le_of_ble_eq_true rfl⟩ ⟨Nat.le_of_ble_eq_true rfl, Nat.le_of_ble_eq_true rfl⟩ dX3_goOn_4 (fun r1 u9 H locs hq hW => ?_)
  obtain ⟨-, rfl⟩ := hq
  have hW : WD g A s _ _ [(v9, .inl (g.2.1 1, 72, .inl L)), (v15, .inl (g.2.1 1, 7, .inl gr0)), (gs, .inr (3, [.ref v, .int al, .ref kn])), (kn, .inl (g.2.1 1, 5, .inl kf)), (v, .inr (10, [.int (nI pp), .int (nI lc), .int de, .ref v3, .ref v4, .ref v5, .ref v6, .ref v7, .ref v8, .ref v9, .ref v10, .ref v11, .ref v12, .ref v13, .int gl, .ref v15]))] := hW
  refine lv_if_ne (tgt := 12) (pc := 7) hx hb dX3_goOn_7 rfl (fun c2 => ?_) (fun c2 => ?_)
  · refine lv_iload_n (pc := 12) hx hb dX3_goOn_12 rfl (lv_at hl 1 rfl) ?_
    refine lv_iload_n (pc := 13) hx hb dX3_goOn_13 rfl (lv_at hl 2 rfl) ?_
    refine lv_icmp_ge (tgt := 23) (pc := 14) hx hb dX3_goOn_14 rfl (fun c3 => ?_) (fun c3 => ?_)
    · refine lv_iconst (v := 1) (pc := 23) hx hb dX3_goOn_23 (by decide) ?_
      exact e_z X hQ hr hW (u := [(gs, .inr (3, [.ref v, .int al, .ref kn])), (kn, .inl (g.2.1 1, 5, .inl kf)), (v, .inr (10, [.int (nI pp), .int (nI lc), .int de, .ref v3, .ref v4, .ref v5, .ref v6, .ref v7, .ref v8, .ref v9, .ref v10, .ref v11, .ref v12, .ref v13, .int gl, .ref v15])), (v9, .inl (g.2.1 1, 72, .inl L)), (v15, .inl (g.2.1 1, 7, .inl gr0))]) rfl [2, 3, 4, 0, 1] rfl rfl (⟨_, _, Or.inr rfl, hg0, rfl⟩) ⟨Nat.le_of_ble_eq_true rfl, Nat.le_of_ble_eq_true rfl⟩ dX3_goOn_24
    · refine lv_iload_n (pc := 17) hx hb dX3_goOn_17 rfl (lv_at hl 1 rfl) ?_
      refine lv_bipush (v := 7) (pc := 18) hx hb dX3_goOn_18 (by decide) ?_
      refine lv_icmp_lt (tgt := 25) (pc := 20) hx hb dX3_goOn_20 rfl (fun c4 => ?_) (fun c4 => absurd (by decide) c4)
      refine lv_iconst (v := 0) (pc := 25) hx hb dX3_goOn_25 (by decide) ?_
      refine lv_istore_n (lv' := [(3, .int 0), (0, .ref gs), (1, .int 0), (2, .int (nI ca))]) (pc := 26) hx hb dX3_goOn_26 rfl hl (by decide) rfl (fun ls hl => ?_)
      have hW : WD g A s _ _ [(gs, .inr (3, [.ref v, .int al, .ref kn])), (kn, .inl (g.2.1 1, 5, .inl kf)), (v, .inr (10, [.int (nI pp), .int (nI lc), .int de, .ref v3, .ref v4, .ref v5, .ref v6, .ref v7, .ref v8, .ref v9, .ref v10, .ref v11, .ref v12, .ref v13, .int gl, .ref v15])), (v9, .inl (g.2.1 1, 72, .inl L)), (v15, .inl (g.2.1 1, 7, .inl gr0))] := hW.pick [2, 3, 4, 0, 1] rfl rfl
      have loop1 : ∀ (fu : Nat) (i : Nat) (kk : Nat → Int32) (gr : Nat → Int32), (lc < fu + i) → (i ≤ lc) → (gb gr) → ∀ (H : Heap) (locs : List Loc) (ls : Array Slot), WD g A s H locs [(gs, .inr (3, [.ref v, .int al, .ref kn])), (kn, .inl (g.2.1 1, 5, .inl kk)), (v, .inr (10, [.int (nI pp), .int (nI lc), .int de, .ref v3, .ref v4, .ref v5, .ref v6, .ref v7, .ref v8, .ref v9, .ref v10, .ref v11, .ref v12, .ref v13, .int gl, .ref v15])), (v9, .inl (g.2.1 1, 72, .inl L)), (v15, .inl (g.2.1 1, 7, .inl gr))] → lv_has ls 8 [(0, .ref gs), (1, .int 0), (2, .int (nI ca)), (3, .int (nI i))] → W p l e (RM 9 0 0) s m args below meth c H locs 0 0 Q (F0 m 27 ls []) := by
        intro fu
        induction fu with
        | zero =>
          intro i kk gr hm hi hgr
          exact absurd hm (by omega)
        | succ fu ih1 =>
          intro i kk gr hm hi hgr H locs ls hW hl
          refine lv_iload_n (pc := 27) hx hb dX3_goOn_27 rfl (lv_at hl 3 rfl) ?_
          refine lv_aload_n (pc := 28) hx hb dX3_goOn_28 rfl (lv_at hl 0 rfl) ?_
          refine r_get X hW 0 ciX3 0 rfl (by decide) m_196 rfl rfl dX3_goOn_29 ?_
          refine r_getN X hW 2 ciX10 1 rfl (by decide) m_283 rfl rfl dX3_goOn_32 ?_
          refine lv_icmp_ge (tgt := 168) (pc := 35) hx hb dX3_goOn_35 rfl (fun c5 => ?_) (fun c5 => ?_)
          · refine lv_iconst (v := 0) (pc := 168) hx hb dX3_goOn_168 (by decide) ?_
            exact e_z X hQ hr hW (u := [(gs, .inr (3, [.ref v, .int al, .ref kn])), (kn, .inl (g.2.1 1, 5, .inl kk)), (v, .inr (10, [.int (nI pp), .int (nI lc), .int de, .ref v3, .ref v4, .ref v5, .ref v6, .ref v7, .ref v8, .ref v9, .ref v10, .ref v11, .ref v12, .ref v13, .int gl, .ref v15])), (v9, .inl (g.2.1 1, 72, .inl L)), (v15, .inl (g.2.1 1, 7, .inl gr))]) rfl [0, 1, 2, 3, 4] rfl rfl (⟨_, _, Or.inl rfl, hgr, rfl⟩) ⟨Nat.le_of_ble_eq_true rfl, Nat.le_of_ble_eq_true rfl⟩ dX3_goOn_169
          · have hil : i < lc := ge_f (by omega) (by omega) c5
            obtain ⟨ea, eb, hea, heb, eA, eB⟩ := hL i hil
            refine lv_aload_n (pc := 38) hx hb dX3_goOn_38 rfl (lv_at hl 0 rfl) ?_
            refine r_get X hW 0 ciX3 0 rfl (by decide) m_196 rfl rfl dX3_goOn_39 ?_
            refine lv_iload_n (pc := 42) hx hb dX3_goOn_42 rfl (lv_at hl 3 rfl) ?_
            refine c_Vi (pc := 43) (As := [.int (nI i)]) (rest := []) (wr := [(gs, .inr (3, [.ref v, .int al, .ref kn])), (kn, .inl (g.2.1 1, 5, .inl kk)), (v15, .inl (g.2.1 1, 7, .inl gr))]) X hW 2 ciX10 rfl (C_X10_lineAG l g v v3 v4 v5 v6 v7 v8 v9 v10 v11 v12 v13 v15 (nI pp) (nI lc) de gl L i (by omega)) vX3_61 [2, 3] [0, 1, 4] rfl rfl rfl rfl rfl rfl hl.1 rfl (Nat.le_of_ble_eq_true rfl) ⟨Nat.le_of_ble_eq_true rfl, Nat.le_of_ble_eq_true rfl⟩ ⟨Nat.le_of_ble_eq_true rfl, Nat.le_of_ble_eq_true rfl⟩ dX3_goOn_43 (fun r6 u9 H locs hq hW => ?_)
            obtain ⟨rfl, rfl⟩ := hq
            have hW : WD g A s _ _ [(gs, .inr (3, [.ref v, .int al, .ref kn])), (kn, .inl (g.2.1 1, 5, .inl kk)), (v15, .inl (g.2.1 1, 7, .inl gr)), (v, .inr (10, [.int (nI pp), .int (nI lc), .int de, .ref v3, .ref v4, .ref v5, .ref v6, .ref v7, .ref v8, .ref v9, .ref v10, .ref v11, .ref v12, .ref v13, .int gl, .ref v15])), (v9, .inl (g.2.1 1, 72, .inl L))] := hW
            rw [eA]
            refine lv_istore (lv' := [(4, .int (nI ea)), (0, .ref gs), (1, .int 0), (2, .int (nI ca)), (3, .int (nI i))]) (pc := 46) hx hb dX3_goOn_46 hl (by decide) rfl (fun ls hl => ?_)
            refine lv_aload_n (pc := 48) hx hb dX3_goOn_48 rfl (lv_at hl 1 rfl) ?_
            refine r_get X hW 0 ciX3 0 rfl (by decide) m_196 rfl rfl dX3_goOn_49 ?_
            refine lv_iload_n (pc := 52) hx hb dX3_goOn_52 rfl (lv_at hl 4 rfl) ?_
            refine c_Vi (pc := 53) (As := [.int (nI i)]) (rest := []) (wr := [(gs, .inr (3, [.ref v, .int al, .ref kn])), (kn, .inl (g.2.1 1, 5, .inl kk)), (v15, .inl (g.2.1 1, 7, .inl gr))]) X hW 3 ciX10 rfl (C_X10_lineBG l g v v3 v4 v5 v6 v7 v8 v9 v10 v11 v12 v13 v15 (nI pp) (nI lc) de gl L i (by omega)) vX3_64 [3, 4] [0, 1, 2] rfl rfl rfl rfl rfl rfl hl.1 rfl (Nat.le_of_ble_eq_true rfl) ⟨Nat.le_of_ble_eq_true rfl, Nat.le_of_ble_eq_true rfl⟩ ⟨Nat.le_of_ble_eq_true rfl, Nat.le_of_ble_eq_true rfl⟩ dX3_goOn_53 (fun r7 u9 H locs hq hW => ?_)
            obtain ⟨rfl, rfl⟩ := hq
            have hW : WD g A s _ _ [(gs, .inr (3, [.ref v, .int al, .ref kn])), (kn, .inl (g.2.1 1, 5, .inl kk)), (v15, .inl (g.2.1 1, 7, .inl gr)), (v, .inr (10, [.int (nI pp), .int (nI lc), .int de, .ref v3, .ref v4, .ref v5, .ref v6, .ref v7, .ref v8, .ref v9, .ref v10, .ref v11, .ref v12, .ref v13, .int gl, .ref v15])), (v9, .inl (g.2.1 1, 72, .inl L))] := hW
            rw [eB]
            refine lv_istore (lv' := [(5, .int (nI eb)), (4, .int (nI ea)), (0, .ref gs), (1, .int 0), (2, .int (nI ca)), (3, .int (nI i))]) (pc := 56) hx hb dX3_goOn_56 hl (by decide) rfl (fun ls hl => ?_)
            refine lv_aload_n (pc := 58) hx hb dX3_goOn_58 rfl (lv_at hl 2 rfl) ?_
            refine r_get X hW 0 ciX3 2 rfl (by decide) m_198 rfl rfl dX3_goOn_59 ?_
            refine lv_iload (pc := 62) hx hb dX3_goOn_62 (lv_at hl 1 rfl) ?_
            refine r_iald X hW 1 rfl (vp_in_nI (by omega) (by decide)) dX3_goOn_64 ?_
            refine lv_istore (lv' := [(6, .int (kk (nI ea).toNatClampNeg)), (5, .int (nI eb)), (4, .int (nI ea)), (0, .ref gs), (1, .int 0), (2, .int (nI ca)), (3, .int (nI i))]) (pc := 65) hx hb dX3_goOn_65 hl (by decide) rfl (fun ls hl => ?_)
            refine lv_aload_n (pc := 67) hx hb dX3_goOn_67 rfl (lv_at hl 3 rfl) ?_
            refine r_get X hW 0 ciX3 2 rfl (by decide) m_198 rfl rfl dX3_goOn_68 ?_
            refine lv_iload (pc := 71) hx hb dX3_goOn_71 (lv_at hl 1 rfl) ?_
            refine r_iald X hW 1 rfl (vp_in_nI (by omega) (by decide)) dX3_goOn_73 ?_
            refine lv_istore (lv' := [(7, .int (kk (nI eb).toNatClampNeg)), (6, .int (kk (nI ea).toNatClampNeg)), (5, .int (nI eb)), (4, .int (nI ea)), (0, .ref gs), (1, .int 0), (2, .int (nI ca)), (3, .int (nI i))]) (pc := 74) hx hb dX3_goOn_74 hl (by decide) rfl (fun ls hl => ?_)
            refine lv_aload_n (pc := 76) hx hb dX3_goOn_76 rfl (lv_at hl 4 rfl) ?_
            refine r_get X hW 0 ciX3 0 rfl (by decide) m_196 rfl rfl dX3_goOn_77 ?_
            refine lv_iload_n (pc := 80) hx hb dX3_goOn_80 rfl (lv_at hl 7 rfl) ?_
            refine c_Vi (pc := 81) (As := [.int (nI i)]) (rest := []) (wr := [(gs, .inr (3, [.ref v, .int al, .ref kn])), (kn, .inl (g.2.1 1, 5, .inl kk)), (v15, .inl (g.2.1 1, 7, .inl gr))]) X hW 3 ciX10 rfl (C_X10_isOneWayG l g v v3 v4 v5 v6 v7 v8 v9 v10 v11 v12 v13 v15 (nI pp) (nI lc) de gl L i (by omega)) vX3_67 [3, 4] [0, 1, 2] rfl rfl rfl rfl rfl rfl hl.1 rfl (Nat.le_of_ble_eq_true rfl) ⟨Nat.le_of_ble_eq_true rfl, Nat.le_of_ble_eq_true rfl⟩ ⟨Nat.le_of_ble_eq_true rfl, Nat.le_of_ble_eq_true rfl⟩ dX3_goOn_81 (fun r8 u9 H locs hq hW => ?_)
            obtain ⟨rfl, rfl⟩ := hq
            have hW : WD g A s _ _ [(gs, .inr (3, [.ref v, .int al, .ref kn])), (kn, .inl (g.2.1 1, 5, .inl kk)), (v15, .inl (g.2.1 1, 7, .inl gr)), (v, .inr (10, [.int (nI pp), .int (nI lc), .int de, .ref v3, .ref v4, .ref v5, .ref v6, .ref v7, .ref v8, .ref v9, .ref v10, .ref v11, .ref v12, .ref v13, .int gl, .ref v15])), (v9, .inl (g.2.1 1, 72, .inl L))] := hW
            refine lv_if_ne (tgt := 162) (pc := 84) hx hb dX3_goOn_84 rfl (fun c9 => ?_) (fun c9 => ?_)
            · refine lv_iinc (v := nI (i + 1)) (lv' := [(3, .int (nI (i + 1))), (7, .int (kk (nI eb).toNatClampNeg)), (6, .int (kk (nI ea).toNatClampNeg)), (5, .int (nI eb)), (4, .int (nI ea)), (0, .ref gs), (1, .int 0), (2, .int (nI ca))]) (pc := 162) hx hb dX3_goOn_162 hl (k := 7) rfl ((nI_succ i).symm) (by decide) rfl (fun ls hl => ?_)
              refine lv_goto (tgt := 27) (pc := 165) hx hb dX3_goOn_165 rfl ?_
              have hW : WD g A s _ _ [(gs, .inr (3, [.ref v, .int al, .ref kn])), (kn, .inl (g.2.1 1, 5, .inl kk)), (v, .inr (10, [.int (nI pp), .int (nI lc), .int de, .ref v3, .ref v4, .ref v5, .ref v6, .ref v7, .ref v8, .ref v9, .ref v10, .ref v11, .ref v12, .ref v13, .int gl, .ref v15])), (v9, .inl (g.2.1 1, 72, .inl L)), (v15, .inl (g.2.1 1, 7, .inl gr))] := hW.pick [0, 1, 3, 4, 2] rfl rfl
              exact ih1 (i + 1) kk gr (by omega) (by omega) hgr _ _ _ hW (lv_sub hl [5, 6, 7, 0] rfl)
            · refine lv_iload (pc := 87) hx hb dX3_goOn_87 (lv_at hl 1 rfl) ?_
              refine lv_iload (pc := 89) hx hb dX3_goOn_89 (lv_at hl 0 rfl) ?_
              refine lv_icmp_ne (tgt := 97) (pc := 91) hx hb dX3_goOn_91 rfl (fun c10 => ?_) (fun c10 => ?_)
              · refine lv_aload_n (pc := 97) hx hb dX3_goOn_97 rfl (lv_at hl 4 rfl) ?_
                refine r_get X hW 0 ciX3 2 rfl (by decide) m_198 rfl rfl dX3_goOn_98 ?_
                refine lv_iload (pc := 101) hx hb dX3_goOn_101 (lv_at hl 3 rfl) ?_
                refine lv_iload (pc := 103) hx hb dX3_goOn_103 (lv_at hl 1 rfl) ?_
                refine lv_iload (pc := 105) hx hb dX3_goOn_105 (lv_at hl 0 rfl) ?_
                refine lv_ior (pc := 107) hx hb dX3_goOn_107 ?_
                obtain ⟨f11, ef11⟩ : ∃ fz : Nat → Int32, upd kk (nI ea).toNatClampNeg ((kk (nI ea).toNatClampNeg) ||| (kk (nI eb).toNatClampNeg)) = fz := ⟨_, rfl⟩
                refine r_iast (ws' := [(gs, .inr (3, [.ref v, .int al, .ref kn])), (kn, .inl (g.2.1 1, 5, .inl f11)), (v15, .inl (g.2.1 1, 7, .inl gr)), (v, .inr (10, [.int (nI pp), .int (nI lc), .int de, .ref v3, .ref v4, .ref v5, .ref v6, .ref v7, .ref v8, .ref v9, .ref v10, .ref v11, .ref v12, .ref v13, .int gl, .ref v15])), (v9, .inl (g.2.1 1, 72, .inl L))]) X hW 1 rfl (vp_in_nI (by omega) (by decide)) ef11 rfl dX3_goOn_108 (fun H locs hW => ?_)
                refine lv_aload_n (pc := 109) hx hb dX3_goOn_109 rfl (lv_at hl 4 rfl) ?_
                refine r_get X hW 0 ciX3 2 rfl (by decide) m_198 rfl rfl dX3_goOn_110 ?_
                refine lv_iload (pc := 113) hx hb dX3_goOn_113 (lv_at hl 2 rfl) ?_
                refine lv_iload (pc := 115) hx hb dX3_goOn_115 (lv_at hl 1 rfl) ?_
                refine lv_iload (pc := 117) hx hb dX3_goOn_117 (lv_at hl 0 rfl) ?_
                refine lv_ior (pc := 119) hx hb dX3_goOn_119 ?_
                obtain ⟨f12, ef12⟩ : ∃ fz : Nat → Int32, upd f11 (nI eb).toNatClampNeg ((kk (nI ea).toNatClampNeg) ||| (kk (nI eb).toNatClampNeg)) = fz := ⟨_, rfl⟩
                refine r_iast (ws' := [(gs, .inr (3, [.ref v, .int al, .ref kn])), (kn, .inl (g.2.1 1, 5, .inl f12)), (v15, .inl (g.2.1 1, 7, .inl gr)), (v, .inr (10, [.int (nI pp), .int (nI lc), .int de, .ref v3, .ref v4, .ref v5, .ref v6, .ref v7, .ref v8, .ref v9, .ref v10, .ref v11, .ref v12, .ref v13, .int gl, .ref v15])), (v9, .inl (g.2.1 1, 72, .inl L))]) X hW 1 rfl (vp_in_nI (by omega) (by decide)) ef12 rfl dX3_goOn_120 (fun H locs hW => ?_)
                refine lv_aload_n (pc := 121) hx hb dX3_goOn_121 rfl (lv_at hl 4 rfl) ?_
                refine r_get X hW 0 ciX3 0 rfl (by decide) m_196 rfl rfl dX3_goOn_122 ?_
                refine r_getN X hW 3 ciX10 15 rfl (by decide) m_318 rfl rfl dX3_goOn_125 ?_
                refine lv_iload_n (pc := 128) hx hb dX3_goOn_128 rfl (lv_at hl 5 rfl) ?_
                refine lv_iload_n (pc := 129) hx hb dX3_goOn_129 rfl (lv_at hl 7 rfl) ?_
                obtain ⟨f13, ef13⟩ : ∃ fz : Nat → Int32, upd gr (0 : Int32).toNatClampNeg (nI i) = fz := ⟨_, rfl⟩
                refine r_iast (ws' := [(gs, .inr (3, [.ref v, .int al, .ref kn])), (kn, .inl (g.2.1 1, 5, .inl f12)), (v15, .inl (g.2.1 1, 7, .inl f13)), (v, .inr (10, [.int (nI pp), .int (nI lc), .int de, .ref v3, .ref v4, .ref v5, .ref v6, .ref v7, .ref v8, .ref v9, .ref v10, .ref v11, .ref v12, .ref v13, .int gl, .ref v15])), (v9, .inl (g.2.1 1, 72, .inl L))]) X hW 2 rfl (by unfold vp_in; decide) ef13 rfl dX3_goOn_130 (fun H locs hW => ?_)
                have hg_f13 : gb f13 := by rw [← ef13]; exact gb_upd hgr (by omega)
                refine lv_aload_n (pc := 131) hx hb dX3_goOn_131 rfl (lv_at hl 4 rfl) ?_
                refine lv_iload_n (pc := 132) hx hb dX3_goOn_132 rfl (lv_at hl 5 rfl) ?_
                refine lv_iconst (v := 1) (pc := 133) hx hb dX3_goOn_133 (by decide) ?_
                refine lv_iadd (pc := 134) hx hb dX3_goOn_134 ?_
                refine lv_topi (fun uv14 euv14 => ?_)
                obtain rfl : uv14 = 1 := euv14.trans (by decide +kernel)
                refine lv_iload_n (pc := 135) hx hb dX3_goOn_135 rfl (lv_at hl 6 rfl) ?_
                refine c_Vi (pc := 136) (As := [.int 1, .int (nI ca)]) (rest := []) (wr := []) X hW 0 ciX3 rfl (C_X3_goOn_1 l g gs kn al f12 v v3 v4 v5 v6 v7 v8 v9 v10 v11 v12 v13 v15 de gl lc pp hlc hpp L f13 ca hL hg_f13 hca) vX3_50 [0, 1, 3, 4, 2] [] rfl rfl rfl rfl rfl rfl hl.1 rfl (Nat.le_of_ble_eq_true rfl) ⟨Nat.le_of_ble_eq_true rfl, Nat.le_of_ble_eq_true rfl⟩ ⟨Nat.le_of_ble_eq_true rfl, Nat.le_of_ble_eq_true rfl⟩ dX3_goOn_136 (fun r17 u9 H locs hq hW => ?_)
                obtain ⟨kq15, gq16, -, hgq16, rfl⟩ := hq
                have hW : WD g A s _ _ [(gs, .inr (3, [.ref v, .int al, .ref kn])), (kn, .inl (g.2.1 1, 5, .inl kq15)), (v, .inr (10, [.int (nI pp), .int (nI lc), .int de, .ref v3, .ref v4, .ref v5, .ref v6, .ref v7, .ref v8, .ref v9, .ref v10, .ref v11, .ref v12, .ref v13, .int gl, .ref v15])), (v9, .inl (g.2.1 1, 72, .inl L)), (v15, .inl (g.2.1 1, 7, .inl gq16))] := hW
                refine lv_if_eq (tgt := 144) (pc := 139) hx hb dX3_goOn_139 rfl (fun c18 => ?_) (fun c18 => ?_)
                · refine lv_aload_n (pc := 144) hx hb dX3_goOn_144 rfl (lv_at hl 4 rfl) ?_
                  refine r_get X hW 0 ciX3 2 rfl (by decide) m_198 rfl rfl dX3_goOn_145 ?_
                  refine lv_iload (pc := 148) hx hb dX3_goOn_148 (lv_at hl 3 rfl) ?_
                  refine lv_iload (pc := 150) hx hb dX3_goOn_150 (lv_at hl 1 rfl) ?_
                  obtain ⟨f19, ef19⟩ : ∃ fz : Nat → Int32, upd kq15 (nI ea).toNatClampNeg (kk (nI ea).toNatClampNeg) = fz := ⟨_, rfl⟩
                  refine r_iast (ws' := [(gs, .inr (3, [.ref v, .int al, .ref kn])), (kn, .inl (g.2.1 1, 5, .inl f19)), (v, .inr (10, [.int (nI pp), .int (nI lc), .int de, .ref v3, .ref v4, .ref v5, .ref v6, .ref v7, .ref v8, .ref v9, .ref v10, .ref v11, .ref v12, .ref v13, .int gl, .ref v15])), (v9, .inl (g.2.1 1, 72, .inl L)), (v15, .inl (g.2.1 1, 7, .inl gq16))]) X hW 1 rfl (vp_in_nI (by omega) (by decide)) ef19 rfl dX3_goOn_152 (fun H locs hW => ?_)
                  refine lv_aload_n (pc := 153) hx hb dX3_goOn_153 rfl (lv_at hl 4 rfl) ?_
                  refine r_get X hW 0 ciX3 2 rfl (by decide) m_198 rfl rfl dX3_goOn_154 ?_
                  refine lv_iload (pc := 157) hx hb dX3_goOn_157 (lv_at hl 2 rfl) ?_
                  refine lv_iload (pc := 159) hx hb dX3_goOn_159 (lv_at hl 0 rfl) ?_
                  obtain ⟨f20, ef20⟩ : ∃ fz : Nat → Int32, upd f19 (nI eb).toNatClampNeg (kk (nI eb).toNatClampNeg) = fz := ⟨_, rfl⟩
                  refine r_iast (ws' := [(gs, .inr (3, [.ref v, .int al, .ref kn])), (kn, .inl (g.2.1 1, 5, .inl f20)), (v, .inr (10, [.int (nI pp), .int (nI lc), .int de, .ref v3, .ref v4, .ref v5, .ref v6, .ref v7, .ref v8, .ref v9, .ref v10, .ref v11, .ref v12, .ref v13, .int gl, .ref v15])), (v9, .inl (g.2.1 1, 72, .inl L)), (v15, .inl (g.2.1 1, 7, .inl gq16))]) X hW 1 rfl (vp_in_nI (by omega) (by decide)) ef20 rfl dX3_goOn_161 (fun H locs hW => ?_)
                  refine lv_iinc (v := nI (i + 1)) (lv' := [(3, .int (nI (i + 1))), (7, .int (kk (nI eb).toNatClampNeg)), (6, .int (kk (nI ea).toNatClampNeg)), (5, .int (nI eb)), (4, .int (nI ea)), (0, .ref gs), (1, .int 0), (2, .int (nI ca))]) (pc := 162) hx hb dX3_goOn_162 hl (k := 7) rfl ((nI_succ i).symm) (by decide) rfl (fun ls hl => ?_)
                  refine lv_goto (tgt := 27) (pc := 165) hx hb dX3_goOn_165 rfl ?_
                  have hW : WD g A s _ _ [(gs, .inr (3, [.ref v, .int al, .ref kn])), (kn, .inl (g.2.1 1, 5, .inl f20)), (v, .inr (10, [.int (nI pp), .int (nI lc), .int de, .ref v3, .ref v4, .ref v5, .ref v6, .ref v7, .ref v8, .ref v9, .ref v10, .ref v11, .ref v12, .ref v13, .int gl, .ref v15])), (v9, .inl (g.2.1 1, 72, .inl L)), (v15, .inl (g.2.1 1, 7, .inl gq16))] := hW.pick [0, 1, 2, 3, 4] rfl rfl
                  exact ih1 (i + 1) f20 gq16 (by omega) (by omega) hgq16 _ _ _ hW (lv_sub hl [5, 6, 7, 0] rfl)
                · refine lv_iconst (v := 1) (pc := 142) hx hb dX3_goOn_142 (by decide) ?_
                  exact e_z X hQ hr hW (u := [(gs, .inr (3, [.ref v, .int al, .ref kn])), (kn, .inl (g.2.1 1, 5, .inl kq15)), (v, .inr (10, [.int (nI pp), .int (nI lc), .int de, .ref v3, .ref v4, .ref v5, .ref v6, .ref v7, .ref v8, .ref v9, .ref v10, .ref v11, .ref v12, .ref v13, .int gl, .ref v15])), (v9, .inl (g.2.1 1, 72, .inl L)), (v15, .inl (g.2.1 1, 7, .inl gq16))]) rfl [0, 1, 2, 3, 4] rfl rfl (⟨_, _, Or.inr rfl, hgq16, rfl⟩) ⟨Nat.le_of_ble_eq_true rfl, Nat.le_of_ble_eq_true rfl⟩ dX3_goOn_143
              · refine lv_goto (tgt := 162) (pc := 94) hx hb dX3_goOn_94 rfl ?_
                refine lv_iinc (v := nI (i + 1)) (lv' := [(3, .int (nI (i + 1))), (7, .int (kk (nI eb).toNatClampNeg)), (6, .int (kk (nI ea).toNatClampNeg)), (5, .int (nI eb)), (4, .int (nI ea)), (0, .ref gs), (1, .int 0), (2, .int (nI ca))]) (pc := 162) hx hb dX3_goOn_162 hl (k := 7) rfl ((nI_succ i).symm) (by decide) rfl (fun ls hl => ?_)
                refine lv_goto (tgt := 27) (pc := 165) hx hb dX3_goOn_165 rfl ?_
                have hW : WD g A s _ _ [(gs, .inr (3, [.ref v, .int al, .ref kn])), (kn, .inl (g.2.1 1, 5, .inl kk)), (v, .inr (10, [.int (nI pp), .int (nI lc), .int de, .ref v3, .ref v4, .ref v5, .ref v6, .ref v7, .ref v8, .ref v9, .ref v10, .ref v11, .ref v12, .ref v13, .int gl, .ref v15])), (v9, .inl (g.2.1 1, 72, .inl L)), (v15, .inl (g.2.1 1, 7, .inl gr))] := hW.pick [0, 1, 3, 4, 2] rfl rfl
                exact ih1 (i + 1) kk gr (by omega) (by omega) hgr _ _ _ hW (lv_sub hl [5, 6, 7, 0] rfl)
      exact loop1 (lc + 1) 0 kf gr0 (by omega) (Nat.zero_le _) hg0 _ _ _ hW (lv_sub hl [1, 2, 3, 0] rfl)
  · refine lv_iconst (v := 0) (pc := 10) hx hb dX3_goOn_10 (by decide) ?_
    exact e_z X hQ hr hW (u := [(gs, .inr (3, [.ref v, .int al, .ref kn])), (kn, .inl (g.2.1 1, 5, .inl kf)), (v, .inr (10, [.int (nI pp), .int (nI lc), .int de, .ref v3, .ref v4, .ref v5, .ref v6, .ref v7, .ref v8, .ref v9, .ref v10, .ref v11, .ref v12, .ref v13, .int gl, .ref v15])), (v9, .inl (g.2.1 1, 72, .inl L)), (v15, .inl (g.2.1 1, 7, .inl gr0))]) rfl [2, 3, 4, 0, 1] rfl rfl (⟨_, _, Or.inl rfl, hg0, rfl⟩) ⟨Nat.le_of_ble_eq_true rfl, Nat.le_of_ble_eq_true rfl⟩ dX3_goOn_11

set_option maxHeartbeats 4000000 in
set_option maxRecDepth 100000 in
theorem C_X3_searchG (l : Launch) (g : GG) (gs kn : Nat) (gv : Value) (al : Int32) (kf : Nat → Int32) (v v3 v4 v5 v6 v7 v8 v9 v10 v11 v12 v13 v15 : Nat) (de gl : Int32) (lc pp : Nat) (hlc : lc ≤ 12) (hpp : pp ≤ 7) (L gr0 : Nat → Int32) (hL : endsIn L lc pp) (hg0 : gb gr0) : MetI l g yX3_search cX3_search 4 (some .int) 10 0 0 [.ref gs, .ref v] [(gs, .inr (3, [gv, .int al, .ref kn])), (kn, .inl (g.2.1 1, 5, .inl kf)), (v, .inr (10, [.int (nI pp), .int (nI lc), .int de, .ref v3, .ref v4, .ref v5, .ref v6, .ref v7, .ref v8, .ref v9, .ref v10, .ref v11, .ref v12, .ref v13, .int gl, .ref v15])), (v9, .inl (g.2.1 1, 72, .inl L)), (v15, .inl (g.2.1 1, 7, .inl gr0))] (fun r u => ∃ (gv' : Value) (al' : Int32) (kf' gr' : Nat → Int32), (gv' = gv ∨ gv' = .ref v) ∧ (-1 ≤ r.toInt ∧ r.toInt ≤ 7) ∧ gb gr' ∧ u = [(gs, .inr (3, [gv', .int al', .ref kn])), (kn, .inl (g.2.1 1, 5, .inl kf')), (v, .inr (10, [.int (nI pp), .int (nI lc), .int de, .ref v3, .ref v4, .ref v5, .ref v6, .ref v7, .ref v8, .ref v9, .ref v10, .ref v11, .ref v12, .ref v13, .int gl, .ref v15])), (v9, .inl (g.2.1 1, 72, .inl L)), (v15, .inl (g.2.1 1, 7, .inl gr'))]) := by
  refine MetI.of (own := RX3) rfl (by decide) (Nat.le_of_ble_eq_true rfl) ?_
  intro p e s m below meth c A ls args Q hQ X hr hin hW hl
  have hx := X.1
  have hb := X.2.1
  have hl : lv_has ls 4 [(0, .ref gs), (1, .ref v)] := hl
  refine lv_aload_n (pc := 0) hx hb dX3_search_0 rfl (lv_at hl 1 rfl) ?_
  refine r_getN X hW 2 ciX10 0 rfl (by decide) m_274 rfl rfl dX3_search_1 ?_
  refine lv_iconst (v := 5) (pc := 4) hx hb dX3_search_4 (by decide) ?_
  refine lv_icmp_gt (tgt := 15) (pc := 5) hx hb dX3_search_5 rfl (fun c1 => ?_) (fun c1 => ?_)
  · refine lv_iconst (v := (-1)) (pc := 15) hx hb dX3_search_15 (by decide) ?_
    exact e_i X hQ hr hW (u := [(gs, .inr (3, [gv, .int al, .ref kn])), (kn, .inl (g.2.1 1, 5, .inl kf)), (v, .inr (10, [.int (nI pp), .int (nI lc), .int de, .ref v3, .ref v4, .ref v5, .ref v6, .ref v7, .ref v8, .ref v9, .ref v10, .ref v11, .ref v12, .ref v13, .int gl, .ref v15])), (v9, .inl (g.2.1 1, 72, .inl L)), (v15, .inl (g.2.1 1, 7, .inl gr0))]) [0, 1, 2, 3, 4] rfl rfl (⟨_, _, _, _, Or.inl rfl, ⟨by decide, by decide⟩, hg0, rfl⟩) ⟨Nat.le_of_ble_eq_true rfl, Nat.le_of_ble_eq_true rfl⟩ dX3_search_16
  · have h5 : pp ≤ 5 := (nI_leI (a := pp) (b := 5) (by omega) (by decide)).mp (Int32.not_lt.mp c1)
    refine lv_aload_n (pc := 8) hx hb dX3_search_8 rfl (lv_at hl 1 rfl) ?_
    refine c_Vi (pc := 9) (As := []) (rest := []) (wr := [(gs, .inr (3, [gv, .int al, .ref kn])), (kn, .inl (g.2.1 1, 5, .inl kf)), (v15, .inl (g.2.1 1, 7, .inl gr0))]) X hW 2 ciX10 rfl (C_X10_holdsG l g v v3 v4 v5 v6 v7 v8 v9 v10 v11 v12 v13 v15 de gl L lc pp (by omega) (by omega)) vX3_28 [2, 3] [0, 1, 4] rfl rfl rfl rfl rfl rfl hl.1 rfl (Nat.le_of_ble_eq_true rfl) ⟨Nat.le_of_ble_eq_true rfl, Nat.le_of_ble_eq_true rfl⟩ ⟨Nat.le_of_ble_eq_true rfl, Nat.le_of_ble_eq_true rfl⟩ dX3_search_9 (fun r2 u9 H locs hq hW => ?_)
    obtain ⟨rfl, rfl⟩ := hq
    have hW : WD g A s _ _ [(gs, .inr (3, [gv, .int al, .ref kn])), (kn, .inl (g.2.1 1, 5, .inl kf)), (v15, .inl (g.2.1 1, 7, .inl gr0)), (v, .inr (10, [.int (nI pp), .int (nI lc), .int de, .ref v3, .ref v4, .ref v5, .ref v6, .ref v7, .ref v8, .ref v9, .ref v10, .ref v11, .ref v12, .ref v13, .int gl, .ref v15])), (v9, .inl (g.2.1 1, 72, .inl L))] := hW
    refine lv_if_ne (tgt := 17) (pc := 12) hx hb dX3_search_12 rfl (fun c3 => ?_) (fun c3 => ?_)
    · refine lv_aload_n (pc := 17) hx hb dX3_search_17 rfl (lv_at hl 0 rfl) ?_
      refine lv_aload_n (pc := 18) hx hb dX3_search_18 rfl (lv_at hl 1 rfl) ?_
      refine r_put (ws' := [(gs, .inr (3, [.ref v, .int al, .ref kn])), (kn, .inl (g.2.1 1, 5, .inl kf)), (v15, .inl (g.2.1 1, 7, .inl gr0)), (v, .inr (10, [.int (nI pp), .int (nI lc), .int de, .ref v3, .ref v4, .ref v5, .ref v6, .ref v7, .ref v8, .ref v9, .ref v10, .ref v11, .ref v12, .ref v13, .int gl, .ref v15])), (v9, .inl (g.2.1 1, 72, .inl L))]) X hW 0 ciX3 0 rfl (by decide) m_196 rfl rfl rfl rfl (Nat.le_of_ble_eq_true rfl) rfl dX3_search_19 (fun H locs hW => ?_)
      refine lv_aload_n (pc := 22) hx hb dX3_search_22 rfl (lv_at hl 0 rfl) ?_
      refine lv_aload_n (pc := 23) hx hb dX3_search_23 rfl (lv_at hl 1 rfl) ?_
      refine c_Vi (pc := 24) (As := []) (rest := [.ref gs]) (wr := [(gs, .inr (3, [.ref v, .int al, .ref kn])), (kn, .inl (g.2.1 1, 5, .inl kf)), (v15, .inl (g.2.1 1, 7, .inl gr0)), (v9, .inl (g.2.1 1, 72, .inl L))]) X hW 3 ciX10 rfl (C_X10_everyoneG l g v v3 v4 v5 v6 v7 v8 v9 v10 v11 v12 v13 v15 (nI pp) (nI lc) de gl) vX3_36 [3] [0, 1, 2, 4] rfl rfl rfl rfl rfl rfl hl.1 rfl (Nat.le_of_ble_eq_true rfl) ⟨Nat.le_of_ble_eq_true rfl, Nat.le_of_ble_eq_true rfl⟩ ⟨Nat.le_of_ble_eq_true rfl, Nat.le_of_ble_eq_true rfl⟩ dX3_search_24 (fun r4 u9 H locs hq hW => ?_)
      obtain ⟨rfl, rfl⟩ := hq
      have hW : WD g A s _ _ [(gs, .inr (3, [.ref v, .int al, .ref kn])), (kn, .inl (g.2.1 1, 5, .inl kf)), (v15, .inl (g.2.1 1, 7, .inl gr0)), (v9, .inl (g.2.1 1, 72, .inl L)), (v, .inr (10, [.int (nI pp), .int (nI lc), .int de, .ref v3, .ref v4, .ref v5, .ref v6, .ref v7, .ref v8, .ref v9, .ref v10, .ref v11, .ref v12, .ref v13, .int gl, .ref v15]))] := hW
      refine r_put (ws' := [(gs, .inr (3, [.ref v, .int (evy (nI pp)), .ref kn])), (kn, .inl (g.2.1 1, 5, .inl kf)), (v15, .inl (g.2.1 1, 7, .inl gr0)), (v9, .inl (g.2.1 1, 72, .inl L)), (v, .inr (10, [.int (nI pp), .int (nI lc), .int de, .ref v3, .ref v4, .ref v5, .ref v6, .ref v7, .ref v8, .ref v9, .ref v10, .ref v11, .ref v12, .ref v13, .int gl, .ref v15]))]) X hW 0 ciX3 1 rfl (by decide) m_197 rfl rfl rfl rfl (Nat.le_of_ble_eq_true rfl) rfl dX3_search_27 (fun H locs hW => ?_)
      refine lv_aload_n (pc := 30) hx hb dX3_search_30 rfl (lv_at hl 1 rfl) ?_
      refine r_getN X hW 4 ciX10 0 rfl (by decide) m_274 rfl rfl dX3_search_31 ?_
      refine c_Si (pc := 34) (As := [.int (nI pp)]) (rest := []) (wr := [(gs, .inr (3, [.ref v, .int (evy (nI pp)), .ref kn])), (kn, .inl (g.2.1 1, 5, .inl kf)), (v15, .inl (g.2.1 1, 7, .inl gr0)), (v9, .inl (g.2.1 1, 72, .inl L)), (v, .inr (10, [.int (nI pp), .int (nI lc), .int de, .ref v3, .ref v4, .ref v5, .ref v6, .ref v7, .ref v8, .ref v9, .ref v10, .ref v11, .ref v12, .ref v13, .int gl, .ref v15]))]) X hW (C_X3_lowerEndG l g (nI pp)) vX3_43 [] [0, 1, 2, 3, 4] rfl rfl rfl rfl rfl rfl hl.1 rfl (Nat.le_of_ble_eq_true rfl) ⟨Nat.le_of_ble_eq_true rfl, Nat.le_of_ble_eq_true rfl⟩ ⟨Nat.le_of_ble_eq_true rfl, Nat.le_of_ble_eq_true rfl⟩ dX3_search_34 (fun r5 u9 H locs hq hW => ?_)
      obtain ⟨rfl, rfl⟩ := hq
      have hW : WD g A s _ _ [(gs, .inr (3, [.ref v, .int (evy (nI pp)), .ref kn])), (kn, .inl (g.2.1 1, 5, .inl kf)), (v15, .inl (g.2.1 1, 7, .inl gr0)), (v9, .inl (g.2.1 1, 72, .inl L)), (v, .inr (10, [.int (nI pp), .int (nI lc), .int de, .ref v3, .ref v4, .ref v5, .ref v6, .ref v7, .ref v8, .ref v9, .ref v10, .ref v11, .ref v12, .ref v13, .int gl, .ref v15]))] := hW
      obtain ⟨lo, hlo, elo⟩ := lwE_b h5
      rw [elo]
      refine lv_istore_n (lv' := [(2, .int (nI lo)), (0, .ref gs), (1, .ref v)]) (pc := 37) hx hb dX3_search_37 rfl hl (by decide) rfl (fun ls hl => ?_)
      have hW : WD g A s _ _ [(gs, .inr (3, [.ref v, .int (evy (nI pp)), .ref kn])), (kn, .inl (g.2.1 1, 5, .inl kf)), (v, .inr (10, [.int (nI pp), .int (nI lc), .int de, .ref v3, .ref v4, .ref v5, .ref v6, .ref v7, .ref v8, .ref v9, .ref v10, .ref v11, .ref v12, .ref v13, .int gl, .ref v15])), (v9, .inl (g.2.1 1, 72, .inl L)), (v15, .inl (g.2.1 1, 7, .inl gr0))] := hW.pick [0, 1, 4, 3, 2] rfl rfl
      have loop1 : ∀ (fu : Nat) (ca : Nat) (kk : Nat → Int32) (gr : Nat → Int32), (8 < fu + ca) → (ca ≤ 8) → (gb gr) → ∀ (H : Heap) (locs : List Loc) (ls : Array Slot), WD g A s H locs [(gs, .inr (3, [.ref v, .int (evy (nI pp)), .ref kn])), (kn, .inl (g.2.1 1, 5, .inl kk)), (v, .inr (10, [.int (nI pp), .int (nI lc), .int de, .ref v3, .ref v4, .ref v5, .ref v6, .ref v7, .ref v8, .ref v9, .ref v10, .ref v11, .ref v12, .ref v13, .int gl, .ref v15])), (v9, .inl (g.2.1 1, 72, .inl L)), (v15, .inl (g.2.1 1, 7, .inl gr))] → lv_has ls 4 [(0, .ref gs), (1, .ref v), (2, .int (nI ca))] → W p l e (RM 10 0 0) s m args below meth c H locs 0 0 Q (F0 m 38 ls []) := by
        intro fu
        induction fu with
        | zero =>
          intro ca kk gr hm hca hgr
          exact absurd hm (by omega)
        | succ fu ih1 =>
          intro ca kk gr hm hca hgr H locs ls hW hl
          refine lv_iload_n (pc := 38) hx hb dX3_search_38 rfl (lv_at hl 2 rfl) ?_
          refine lv_aload_n (pc := 39) hx hb dX3_search_39 rfl (lv_at hl 1 rfl) ?_
          refine r_getN X hW 2 ciX10 0 rfl (by decide) m_274 rfl rfl dX3_search_40 ?_
          refine c_Si (pc := 43) (As := [.int (nI pp)]) (rest := [.int (nI ca)]) (wr := [(gs, .inr (3, [.ref v, .int (evy (nI pp)), .ref kn])), (kn, .inl (g.2.1 1, 5, .inl kk)), (v, .inr (10, [.int (nI pp), .int (nI lc), .int de, .ref v3, .ref v4, .ref v5, .ref v6, .ref v7, .ref v8, .ref v9, .ref v10, .ref v11, .ref v12, .ref v13, .int gl, .ref v15])), (v9, .inl (g.2.1 1, 72, .inl L)), (v15, .inl (g.2.1 1, 7, .inl gr))]) X hW (C_X3_upperEndG l g (nI pp)) vX3_47 [] [0, 1, 2, 3, 4] rfl rfl rfl rfl rfl rfl hl.1 rfl (Nat.le_of_ble_eq_true rfl) ⟨Nat.le_of_ble_eq_true rfl, Nat.le_of_ble_eq_true rfl⟩ ⟨Nat.le_of_ble_eq_true rfl, Nat.le_of_ble_eq_true rfl⟩ dX3_search_43 (fun r6 u9 H locs hq hW => ?_)
          obtain ⟨rfl, rfl⟩ := hq
          have hW : WD g A s _ _ [(gs, .inr (3, [.ref v, .int (evy (nI pp)), .ref kn])), (kn, .inl (g.2.1 1, 5, .inl kk)), (v, .inr (10, [.int (nI pp), .int (nI lc), .int de, .ref v3, .ref v4, .ref v5, .ref v6, .ref v7, .ref v8, .ref v9, .ref v10, .ref v11, .ref v12, .ref v13, .int gl, .ref v15])), (v9, .inl (g.2.1 1, 72, .inl L)), (v15, .inl (g.2.1 1, 7, .inl gr))] := hW
          obtain ⟨up, hup, eup⟩ := upE_b h5
          rw [eup]
          refine lv_icmp_gt (tgt := 91) (pc := 46) hx hb dX3_search_46 rfl (fun c7 => ?_) (fun c7 => ?_)
          · refine lv_iconst (v := (-1)) (pc := 91) hx hb dX3_search_91 (by decide) ?_
            exact e_i X hQ hr hW (u := [(gs, .inr (3, [.ref v, .int (evy (nI pp)), .ref kn])), (kn, .inl (g.2.1 1, 5, .inl kk)), (v, .inr (10, [.int (nI pp), .int (nI lc), .int de, .ref v3, .ref v4, .ref v5, .ref v6, .ref v7, .ref v8, .ref v9, .ref v10, .ref v11, .ref v12, .ref v13, .int gl, .ref v15])), (v9, .inl (g.2.1 1, 72, .inl L)), (v15, .inl (g.2.1 1, 7, .inl gr))]) [0, 1, 2, 3, 4] rfl rfl (⟨_, _, _, _, Or.inr rfl, ⟨by decide, by decide⟩, hgr, rfl⟩) ⟨Nat.le_of_ble_eq_true rfl, Nat.le_of_ble_eq_true rfl⟩ dX3_search_92
          · have hcu : ca ≤ up := (nI_leI (a := ca) (b := up) (by omega) (by omega)).mp (Int32.not_lt.mp c7)
            refine lv_iconst (v := 0) (pc := 49) hx hb dX3_search_49 (by decide) ?_
            refine lv_istore_n (lv' := [(3, .int 0), (0, .ref gs), (1, .ref v), (2, .int (nI ca))]) (pc := 50) hx hb dX3_search_50 rfl hl (by decide) rfl (fun ls hl => ?_)
            have loop2 : ∀ (fv : Nat) (k : Nat) (k5 : Nat → Int32), (pp < fv + k) → (k ≤ pp) → ∀ (H : Heap) (locs : List Loc) (ls : Array Slot), WD g A s H locs [(gs, .inr (3, [.ref v, .int (evy (nI pp)), .ref kn])), (kn, .inl (g.2.1 1, 5, .inl k5)), (v, .inr (10, [.int (nI pp), .int (nI lc), .int de, .ref v3, .ref v4, .ref v5, .ref v6, .ref v7, .ref v8, .ref v9, .ref v10, .ref v11, .ref v12, .ref v13, .int gl, .ref v15])), (v9, .inl (g.2.1 1, 72, .inl L)), (v15, .inl (g.2.1 1, 7, .inl gr))] → lv_has ls 4 [(0, .ref gs), (1, .ref v), (2, .int (nI ca)), (3, .int (nI k))] → W p l e (RM 10 0 0) s m args below meth c H locs 0 0 Q (F0 m 51 ls []) := by
              intro fv
              induction fv with
              | zero =>
                intro k k5 hm2 hk
                exact absurd hm2 (by omega)
              | succ fv ih2 =>
                intro k k5 hm2 hk H locs ls hW hl
                refine lv_iload_n (pc := 51) hx hb dX3_search_51 rfl (lv_at hl 3 rfl) ?_
                refine lv_aload_n (pc := 52) hx hb dX3_search_52 rfl (lv_at hl 1 rfl) ?_
                refine r_getN X hW 2 ciX10 0 rfl (by decide) m_274 rfl rfl dX3_search_53 ?_
                refine lv_icmp_ge (tgt := 74) (pc := 56) hx hb dX3_search_56 rfl (fun c8 => ?_) (fun c8 => ?_)
                · refine lv_aload_n (pc := 74) hx hb dX3_search_74 rfl (lv_at hl 0 rfl) ?_
                  refine lv_iconst (v := 0) (pc := 75) hx hb dX3_search_75 (by decide) ?_
                  refine lv_iload_n (pc := 76) hx hb dX3_search_76 rfl (lv_at hl 2 rfl) ?_
                  refine c_Vi (pc := 77) (As := [.int 0, .int (nI ca)]) (rest := []) (wr := []) X hW 0 ciX3 rfl (C_X3_goOn_0 l g gs kn (evy (nI pp)) k5 v v3 v4 v5 v6 v7 v8 v9 v10 v11 v12 v13 v15 de gl lc pp hlc h5 L gr ca hL hgr (by omega)) vX3_50 [0, 1, 2, 3, 4] [] rfl rfl rfl rfl rfl rfl hl.1 rfl (Nat.le_of_ble_eq_true rfl) ⟨Nat.le_of_ble_eq_true rfl, Nat.le_of_ble_eq_true rfl⟩ ⟨Nat.le_of_ble_eq_true rfl, Nat.le_of_ble_eq_true rfl⟩ dX3_search_77 (fun r11 u9 H locs hq hW => ?_)
                  obtain ⟨kq9, gq10, -, hgq10, rfl⟩ := hq
                  have hW : WD g A s _ _ [(gs, .inr (3, [.ref v, .int (evy (nI pp)), .ref kn])), (kn, .inl (g.2.1 1, 5, .inl kq9)), (v, .inr (10, [.int (nI pp), .int (nI lc), .int de, .ref v3, .ref v4, .ref v5, .ref v6, .ref v7, .ref v8, .ref v9, .ref v10, .ref v11, .ref v12, .ref v13, .int gl, .ref v15])), (v9, .inl (g.2.1 1, 72, .inl L)), (v15, .inl (g.2.1 1, 7, .inl gq10))] := hW
                  refine lv_if_eq (tgt := 85) (pc := 80) hx hb dX3_search_80 rfl (fun c12 => ?_) (fun c12 => ?_)
                  · refine lv_iinc (v := nI (ca + 1)) (lv' := [(2, .int (nI (ca + 1))), (0, .ref gs), (1, .ref v), (3, .int (nI k))]) (pc := 85) hx hb dX3_search_85 hl (k := 2) rfl ((nI_succ ca).symm) (by decide) rfl (fun ls hl => ?_)
                    refine lv_goto (tgt := 38) (pc := 88) hx hb dX3_search_88 rfl ?_
                    have hW : WD g A s _ _ [(gs, .inr (3, [.ref v, .int (evy (nI pp)), .ref kn])), (kn, .inl (g.2.1 1, 5, .inl kq9)), (v, .inr (10, [.int (nI pp), .int (nI lc), .int de, .ref v3, .ref v4, .ref v5, .ref v6, .ref v7, .ref v8, .ref v9, .ref v10, .ref v11, .ref v12, .ref v13, .int gl, .ref v15])), (v9, .inl (g.2.1 1, 72, .inl L)), (v15, .inl (g.2.1 1, 7, .inl gq10))] := hW.pick [0, 1, 2, 3, 4] rfl rfl
                    exact ih1 (ca + 1) kq9 gq10 (by omega) (by omega) hgq10 _ _ _ hW (lv_sub hl [1, 2, 0] rfl)
                  · refine lv_iload_n (pc := 83) hx hb dX3_search_83 rfl (lv_at hl 2 rfl) ?_
                    exact e_i X hQ hr hW (u := [(gs, .inr (3, [.ref v, .int (evy (nI pp)), .ref kn])), (kn, .inl (g.2.1 1, 5, .inl kq9)), (v, .inr (10, [.int (nI pp), .int (nI lc), .int de, .ref v3, .ref v4, .ref v5, .ref v6, .ref v7, .ref v8, .ref v9, .ref v10, .ref v11, .ref v12, .ref v13, .int gl, .ref v15])), (v9, .inl (g.2.1 1, 72, .inl L)), (v15, .inl (g.2.1 1, 7, .inl gq10))]) [0, 1, 2, 3, 4] rfl rfl (⟨_, _, _, _, Or.inr rfl, (by rw [nI_toInt (by omega)]; omega), hgq10, rfl⟩) ⟨Nat.le_of_ble_eq_true rfl, Nat.le_of_ble_eq_true rfl⟩ dX3_search_84
                · have hkl : k < pp := ge_f (by omega) (by omega) c8
                  refine lv_aload_n (pc := 59) hx hb dX3_search_59 rfl (lv_at hl 0 rfl) ?_
                  refine r_get X hW 0 ciX3 2 rfl (by decide) m_198 rfl rfl dX3_search_60 ?_
                  refine lv_iload_n (pc := 63) hx hb dX3_search_63 rfl (lv_at hl 3 rfl) ?_
                  refine lv_iconst (v := 1) (pc := 64) hx hb dX3_search_64 (by decide) ?_
                  refine lv_iload_n (pc := 65) hx hb dX3_search_65 rfl (lv_at hl 3 rfl) ?_
                  refine lv_ishl (pc := 66) hx hb dX3_search_66 ?_
                  obtain ⟨f13, ef13⟩ : ∃ fz : Nat → Int32, upd k5 (nI k).toNatClampNeg (1 <<< ((nI k) &&& 31)) = fz := ⟨_, rfl⟩
                  refine r_iast (ws' := [(gs, .inr (3, [.ref v, .int (evy (nI pp)), .ref kn])), (kn, .inl (g.2.1 1, 5, .inl f13)), (v, .inr (10, [.int (nI pp), .int (nI lc), .int de, .ref v3, .ref v4, .ref v5, .ref v6, .ref v7, .ref v8, .ref v9, .ref v10, .ref v11, .ref v12, .ref v13, .int gl, .ref v15])), (v9, .inl (g.2.1 1, 72, .inl L)), (v15, .inl (g.2.1 1, 7, .inl gr))]) X hW 1 rfl (vp_in_nI (by omega) (by decide)) ef13 rfl dX3_search_67 (fun H locs hW => ?_)
                  refine lv_iinc (v := nI (k + 1)) (lv' := [(3, .int (nI (k + 1))), (0, .ref gs), (1, .ref v), (2, .int (nI ca))]) (pc := 68) hx hb dX3_search_68 hl (k := 3) rfl ((nI_succ k).symm) (by decide) rfl (fun ls hl => ?_)
                  refine lv_goto (tgt := 51) (pc := 71) hx hb dX3_search_71 rfl ?_
                  have hW : WD g A s _ _ [(gs, .inr (3, [.ref v, .int (evy (nI pp)), .ref kn])), (kn, .inl (g.2.1 1, 5, .inl f13)), (v, .inr (10, [.int (nI pp), .int (nI lc), .int de, .ref v3, .ref v4, .ref v5, .ref v6, .ref v7, .ref v8, .ref v9, .ref v10, .ref v11, .ref v12, .ref v13, .int gl, .ref v15])), (v9, .inl (g.2.1 1, 72, .inl L)), (v15, .inl (g.2.1 1, 7, .inl gr))] := hW.pick [0, 1, 2, 3, 4] rfl rfl
                  exact ih2 (k + 1) f13 (by omega) (by omega) _ _ _ hW (lv_sub hl [1, 2, 3, 0] rfl)
            exact loop2 (pp + 1) 0 kk (by omega) (Nat.zero_le _) _ _ _ hW (lv_sub hl [1, 2, 3, 0] rfl)
      exact loop1 9 lo kf gr0 (by omega) (by omega) hg0 _ _ _ hW (lv_sub hl [1, 2, 0] rfl)
    · refine lv_iconst (v := (-1)) (pc := 15) hx hb dX3_search_15 (by decide) ?_
      exact e_i X hQ hr hW (u := [(gs, .inr (3, [gv, .int al, .ref kn])), (kn, .inl (g.2.1 1, 5, .inl kf)), (v, .inr (10, [.int (nI pp), .int (nI lc), .int de, .ref v3, .ref v4, .ref v5, .ref v6, .ref v7, .ref v8, .ref v9, .ref v10, .ref v11, .ref v12, .ref v13, .int gl, .ref v15])), (v9, .inl (g.2.1 1, 72, .inl L)), (v15, .inl (g.2.1 1, 7, .inl gr0))]) [0, 1, 3, 4, 2] rfl rfl (⟨_, _, _, _, Or.inl rfl, ⟨by decide, by decide⟩, hg0, rfl⟩) ⟨Nat.le_of_ble_eq_true rfl, Nat.le_of_ble_eq_true rfl⟩ dX3_search_16

set_option maxHeartbeats 4000000 in
set_option maxRecDepth 100000 in
theorem C_X3_fewestCallsG (l : Launch) (g : GG) (gs kn : Nat) (gv : Value) (al : Int32) (kf : Nat → Int32) (v v3 v4 v5 v6 v7 v8 v9 v10 v11 v12 v13 v15 : Nat) (de gl : Int32) (lc pp : Nat) (hlc : lc ≤ 12) (hpp : pp ≤ 7) (L gr0 : Nat → Int32) (hL : endsIn L lc pp) (hg0 : gb gr0) (hgl : -2 ≤ gl.toInt ∧ gl.toInt ≤ 7) : MetI l g yX3_fewestCalls cX3_fewestCalls 2 (some .int) 11 0 0 [.ref gs, .ref v] [(gs, .inr (3, [gv, .int al, .ref kn])), (kn, .inl (g.2.1 1, 5, .inl kf)), (v, .inr (10, [.int (nI pp), .int (nI lc), .int de, .ref v3, .ref v4, .ref v5, .ref v6, .ref v7, .ref v8, .ref v9, .ref v10, .ref v11, .ref v12, .ref v13, .int gl, .ref v15])), (v9, .inl (g.2.1 1, 72, .inl L)), (v15, .inl (g.2.1 1, 7, .inl gr0))] (fun r u => ∃ (gv' : Value) (al' : Int32) (kf' gr' : Nat → Int32) (gl' : Int32), (gv' = gv ∨ gv' = .ref v) ∧ (-1 ≤ gl'.toInt ∧ gl'.toInt ≤ 7) ∧ r = gl' ∧ gb gr' ∧ u = [(gs, .inr (3, [gv', .int al', .ref kn])), (kn, .inl (g.2.1 1, 5, .inl kf')), (v, .inr (10, [.int (nI pp), .int (nI lc), .int de, .ref v3, .ref v4, .ref v5, .ref v6, .ref v7, .ref v8, .ref v9, .ref v10, .ref v11, .ref v12, .ref v13, .int gl', .ref v15])), (v9, .inl (g.2.1 1, 72, .inl L)), (v15, .inl (g.2.1 1, 7, .inl gr'))]) := by
  refine MetI.of (own := RX3) rfl (by decide) (Nat.le_of_ble_eq_true rfl) ?_
  intro p e s m below meth c A ls args Q hQ X hr hin hW hl
  have hx := X.1
  have hb := X.2.1
  have hl : lv_has ls 2 [(0, .ref gs), (1, .ref v)] := hl
  refine lv_aload_n (pc := 0) hx hb dX3_fewestCalls_0 rfl (lv_at hl 1 rfl) ?_
  refine r_getN X hW 2 ciX10 14 rfl (by decide) m_316 rfl rfl dX3_fewestCalls_1 ?_
  refine lv_bipush (v := (-2)) (pc := 4) hx hb dX3_fewestCalls_4 (by decide) ?_
  refine lv_icmp_ne (tgt := 18) (pc := 6) hx hb dX3_fewestCalls_6 rfl (fun c1 => ?_) (fun c1 => ?_)
  · have hne := c1
    refine lv_aload_n (pc := 18) hx hb dX3_fewestCalls_18 rfl (lv_at hl 1 rfl) ?_
    refine r_getN X hW 2 ciX10 14 rfl (by decide) m_316 rfl rfl dX3_fewestCalls_19 ?_
    exact e_i X hQ hr hW (u := [(gs, .inr (3, [gv, .int al, .ref kn])), (kn, .inl (g.2.1 1, 5, .inl kf)), (v, .inr (10, [.int (nI pp), .int (nI lc), .int de, .ref v3, .ref v4, .ref v5, .ref v6, .ref v7, .ref v8, .ref v9, .ref v10, .ref v11, .ref v12, .ref v13, .int gl, .ref v15])), (v9, .inl (g.2.1 1, 72, .inl L)), (v15, .inl (g.2.1 1, 7, .inl gr0))]) [0, 1, 2, 3, 4] rfl rfl (⟨_, _, _, _, _, Or.inl rfl, ⟨by have := hgl.1; have h9 : ¬ gl.toInt = -2 := fun q => hne (Int32.toInt_inj.mp (q.trans (by decide))); omega, hgl.2⟩, rfl, hg0, rfl⟩) ⟨Nat.le_of_ble_eq_true rfl, Nat.le_of_ble_eq_true rfl⟩ dX3_fewestCalls_22
  · refine lv_aload_n (pc := 9) hx hb dX3_fewestCalls_9 rfl (lv_at hl 1 rfl) ?_
    refine lv_aload_n (pc := 10) hx hb dX3_fewestCalls_10 rfl (lv_at hl 0 rfl) ?_
    refine lv_aload_n (pc := 11) hx hb dX3_fewestCalls_11 rfl (lv_at hl 1 rfl) ?_
    refine c_Vi (pc := 12) (As := [.ref v]) (rest := [.ref v]) (wr := []) X hW 0 ciX3 rfl (C_X3_searchG l g gs kn gv al kf v v3 v4 v5 v6 v7 v8 v9 v10 v11 v12 v13 v15 de gl lc pp hlc hpp L gr0 hL hg0) vX3_21 [0, 1, 2, 3, 4] [] rfl rfl rfl rfl rfl rfl hl.1 rfl (Nat.le_of_ble_eq_true rfl) ⟨Nat.le_of_ble_eq_true rfl, Nat.le_of_ble_eq_true rfl⟩ ⟨Nat.le_of_ble_eq_true rfl, Nat.le_of_ble_eq_true rfl⟩ dX3_fewestCalls_12 (fun rS u9 H locs hq hW => ?_)
    obtain ⟨gv2, al2, kf2, gr2, hv2, hb2, hg2, rfl⟩ := hq
    have hW : WD g A s _ _ [(gs, .inr (3, [gv2, .int al2, .ref kn])), (kn, .inl (g.2.1 1, 5, .inl kf2)), (v, .inr (10, [.int (nI pp), .int (nI lc), .int de, .ref v3, .ref v4, .ref v5, .ref v6, .ref v7, .ref v8, .ref v9, .ref v10, .ref v11, .ref v12, .ref v13, .int gl, .ref v15])), (v9, .inl (g.2.1 1, 72, .inl L)), (v15, .inl (g.2.1 1, 7, .inl gr2))] := hW
    refine r_putN (ws' := [(gs, .inr (3, [gv2, .int al2, .ref kn])), (kn, .inl (g.2.1 1, 5, .inl kf2)), (v, .inr (10, [.int (nI pp), .int (nI lc), .int de, .ref v3, .ref v4, .ref v5, .ref v6, .ref v7, .ref v8, .ref v9, .ref v10, .ref v11, .ref v12, .ref v13, .int rS, .ref v15])), (v9, .inl (g.2.1 1, 72, .inl L)), (v15, .inl (g.2.1 1, 7, .inl gr2))]) X hW 2 ciX10 14 rfl (by decide) m_316 rfl rfl rfl rfl (Nat.le_of_ble_eq_true rfl) rfl dX3_fewestCalls_15 (fun H locs hW => ?_)
    refine lv_aload_n (pc := 18) hx hb dX3_fewestCalls_18 rfl (lv_at hl 1 rfl) ?_
    refine r_getN X hW 2 ciX10 14 rfl (by decide) m_316 rfl rfl dX3_fewestCalls_19 ?_
    exact e_i X hQ hr hW (u := [(gs, .inr (3, [gv2, .int al2, .ref kn])), (kn, .inl (g.2.1 1, 5, .inl kf2)), (v, .inr (10, [.int (nI pp), .int (nI lc), .int de, .ref v3, .ref v4, .ref v5, .ref v6, .ref v7, .ref v8, .ref v9, .ref v10, .ref v11, .ref v12, .ref v13, .int rS, .ref v15])), (v9, .inl (g.2.1 1, 72, .inl L)), (v15, .inl (g.2.1 1, 7, .inl gr2))]) [0, 1, 2, 3, 4] rfl rfl (⟨_, _, _, _, _, hv2, hb2, rfl, hg2, rfl⟩) ⟨Nat.le_of_ble_eq_true rfl, Nat.le_of_ble_eq_true rfl⟩ dX3_fewestCalls_22

theorem dX7_prepare_0 : decode cX7_prepare 0 = .ok (.aload_n 0, 1) := DX7_prepare _ _ _ rfl
theorem dX7_prepare_1 : decode cX7_prepare 1 = .ok (.aload_n 1, 1) := DX7_prepare _ _ _ rfl
theorem dX7_prepare_2 : decode cX7_prepare 2 = .ok (.getfield 51, 3) := DX7_prepare _ _ _ rfl
theorem dX7_prepare_5 : decode cX7_prepare 5 = .ok (.putfield 57, 3) := DX7_prepare _ _ _ rfl
theorem dX7_prepare_8 : decode cX7_prepare 8 = .ok (.aload_n 0, 1) := DX7_prepare _ _ _ rfl
theorem dX7_prepare_9 : decode cX7_prepare 9 = .ok (.aload_n 1, 1) := DX7_prepare _ _ _ rfl
theorem dX7_prepare_10 : decode cX7_prepare 10 = .ok (.getfield 58, 3) := DX7_prepare _ _ _ rfl
theorem dX7_prepare_13 : decode cX7_prepare 13 = .ok (.putfield 61, 3) := DX7_prepare _ _ _ rfl
theorem dX7_prepare_16 : decode cX7_prepare 16 = .ok (.aload_n 0, 1) := DX7_prepare _ _ _ rfl
theorem dX7_prepare_17 : decode cX7_prepare 17 = .ok (.aload_n 1, 1) := DX7_prepare _ _ _ rfl
theorem dX7_prepare_18 : decode cX7_prepare 18 = .ok (.invokevirtual 62, 3) := DX7_prepare _ _ _ rfl
theorem dX7_prepare_21 : decode cX7_prepare 21 = .ok (.aload_n 1, 1) := DX7_prepare _ _ _ rfl
theorem dX7_prepare_22 : decode cX7_prepare 22 = .ok (.getfield 66, 3) := DX7_prepare _ _ _ rfl
theorem dX7_prepare_25 : decode cX7_prepare 25 = .ok (.iload_n 2, 1) := DX7_prepare _ _ _ rfl
theorem dX7_prepare_26 : decode cX7_prepare 26 = .ok (.iaload, 1) := DX7_prepare _ _ _ rfl
theorem dX7_prepare_27 : decode cX7_prepare 27 = .ok (.iconst (-1), 1) := DX7_prepare _ _ _ rfl
theorem dX7_prepare_28 : decode cX7_prepare 28 = .ok (.ixor, 1) := DX7_prepare _ _ _ rfl
theorem dX7_prepare_29 : decode cX7_prepare 29 = .ok (.iand, 1) := DX7_prepare _ _ _ rfl
theorem dX7_prepare_30 : decode cX7_prepare 30 = .ok (.putfield 69, 3) := DX7_prepare _ _ _ rfl
theorem dX7_prepare_33 : decode cX7_prepare 33 = .ok (.aload_n 0, 1) := DX7_prepare _ _ _ rfl
theorem dX7_prepare_34 : decode cX7_prepare 34 = .ok (.aload_n 1, 1) := DX7_prepare _ _ _ rfl
theorem dX7_prepare_35 : decode cX7_prepare 35 = .ok (.getfield 72, 3) := DX7_prepare _ _ _ rfl
theorem dX7_prepare_38 : decode cX7_prepare 38 = .ok (.iload_n 2, 1) := DX7_prepare _ _ _ rfl
theorem dX7_prepare_39 : decode cX7_prepare 39 = .ok (.iaload, 1) := DX7_prepare _ _ _ rfl
theorem dX7_prepare_40 : decode cX7_prepare 40 = .ok (.putfield 75, 3) := DX7_prepare _ _ _ rfl
theorem dX7_prepare_43 : decode cX7_prepare 43 = .ok (.iconst 1, 1) := DX7_prepare _ _ _ rfl
theorem dX7_prepare_44 : decode cX7_prepare 44 = .ok (.istore_n 3, 1) := DX7_prepare _ _ _ rfl
theorem dX7_prepare_45 : decode cX7_prepare 45 = .ok (.iload_n 3, 1) := DX7_prepare _ _ _ rfl
theorem dX7_prepare_46 : decode cX7_prepare 46 = .ok (.bipush 24, 2) := DX7_prepare _ _ _ rfl
theorem dX7_prepare_48 : decode cX7_prepare 48 = .ok (.if_icmp .gt 71, 3) := DX7_prepare _ _ _ rfl
theorem dX7_prepare_119 : decode cX7_prepare 119 = .ok (.return_, 1) := DX7_prepare _ _ _ rfl
theorem dX7_prepare_51 : decode cX7_prepare 51 = .ok (.iconst 0, 1) := DX7_prepare _ _ _ rfl
theorem dX7_prepare_52 : decode cX7_prepare 52 = .ok (.istore 4, 2) := DX7_prepare _ _ _ rfl
theorem dX7_prepare_54 : decode cX7_prepare 54 = .ok (.iload 4, 2) := DX7_prepare _ _ _ rfl
theorem dX7_prepare_56 : decode cX7_prepare 56 = .ok (.aload_n 0, 1) := DX7_prepare _ _ _ rfl
theorem dX7_prepare_57 : decode cX7_prepare 57 = .ok (.getfield 57, 3) := DX7_prepare _ _ _ rfl
theorem dX7_prepare_60 : decode cX7_prepare 60 = .ok (.if_icmp .ge 53, 3) := DX7_prepare _ _ _ rfl
theorem dX7_prepare_113 : decode cX7_prepare 113 = .ok (.iinc 3 1, 3) := DX7_prepare _ _ _ rfl
theorem dX7_prepare_116 : decode cX7_prepare 116 = .ok (.goto (-71), 3) := DX7_prepare _ _ _ rfl
theorem dX7_prepare_63 : decode cX7_prepare 63 = .ok (.aload_n 0, 1) := DX7_prepare _ _ _ rfl
theorem dX7_prepare_64 : decode cX7_prepare 64 = .ok (.getfield 69, 3) := DX7_prepare _ _ _ rfl
theorem dX7_prepare_67 : decode cX7_prepare 67 = .ok (.iload 4, 2) := DX7_prepare _ _ _ rfl
theorem dX7_prepare_69 : decode cX7_prepare 69 = .ok (.invokestatic 77, 3) := DX7_prepare _ _ _ rfl
theorem dX7_prepare_72 : decode cX7_prepare 72 = .ok (.ifCond .eq 18, 3) := DX7_prepare _ _ _ rfl
theorem dX7_prepare_90 : decode cX7_prepare 90 = .ok (.iconst 0, 1) := DX7_prepare _ _ _ rfl
theorem dX7_prepare_91 : decode cX7_prepare 91 = .ok (.istore 5, 2) := DX7_prepare _ _ _ rfl
theorem dX7_prepare_93 : decode cX7_prepare 93 = .ok (.aload_n 0, 1) := DX7_prepare _ _ _ rfl
theorem dX7_prepare_94 : decode cX7_prepare 94 = .ok (.getfield 18, 3) := DX7_prepare _ _ _ rfl
theorem dX7_prepare_97 : decode cX7_prepare 97 = .ok (.iload_n 3, 1) := DX7_prepare _ _ _ rfl
theorem dX7_prepare_98 : decode cX7_prepare 98 = .ok (.bipush 7, 2) := DX7_prepare _ _ _ rfl
theorem dX7_prepare_100 : decode cX7_prepare 100 = .ok (.imul, 1) := DX7_prepare _ _ _ rfl
theorem dX7_prepare_101 : decode cX7_prepare 101 = .ok (.iload 4, 2) := DX7_prepare _ _ _ rfl
theorem dX7_prepare_103 : decode cX7_prepare 103 = .ok (.iadd, 1) := DX7_prepare _ _ _ rfl
theorem dX7_prepare_104 : decode cX7_prepare 104 = .ok (.iload 5, 2) := DX7_prepare _ _ _ rfl
theorem dX7_prepare_106 : decode cX7_prepare 106 = .ok (.iastore, 1) := DX7_prepare _ _ _ rfl
theorem dX7_prepare_107 : decode cX7_prepare 107 = .ok (.iinc 4 1, 3) := DX7_prepare _ _ _ rfl
theorem dX7_prepare_110 : decode cX7_prepare 110 = .ok (.goto (-56), 3) := DX7_prepare _ _ _ rfl
theorem dX7_prepare_75 : decode cX7_prepare 75 = .ok (.aload_n 1, 1) := DX7_prepare _ _ _ rfl
theorem dX7_prepare_76 : decode cX7_prepare 76 = .ok (.iload 4, 2) := DX7_prepare _ _ _ rfl
theorem dX7_prepare_78 : decode cX7_prepare 78 = .ok (.iload_n 3, 1) := DX7_prepare _ _ _ rfl
theorem dX7_prepare_79 : decode cX7_prepare 79 = .ok (.invokevirtual 81, 3) := DX7_prepare _ _ _ rfl
theorem dX7_prepare_82 : decode cX7_prepare 82 = .ok (.aload_n 0, 1) := DX7_prepare _ _ _ rfl
theorem dX7_prepare_83 : decode cX7_prepare 83 = .ok (.getfield 69, 3) := DX7_prepare _ _ _ rfl
theorem dX7_prepare_86 : decode cX7_prepare 86 = .ok (.iand, 1) := DX7_prepare _ _ _ rfl
theorem dX7_prepare_87 : decode cX7_prepare 87 = .ok (.goto 4, 3) := DX7_prepare _ _ _ rfl
theorem dX7_comeToAfter_0 : decode cX7_comeToAfter 0 = .ok (.iload_n 1, 1) := DX7_comeToAfter _ _ _ rfl
theorem dX7_comeToAfter_1 : decode cX7_comeToAfter 1 = .ok (.istore_n 3, 1) := DX7_comeToAfter _ _ _ rfl
theorem dX7_comeToAfter_2 : decode cX7_comeToAfter 2 = .ok (.iconst 0, 1) := DX7_comeToAfter _ _ _ rfl
theorem dX7_comeToAfter_3 : decode cX7_comeToAfter 3 = .ok (.istore 4, 2) := DX7_comeToAfter _ _ _ rfl
theorem dX7_comeToAfter_5 : decode cX7_comeToAfter 5 = .ok (.iload 4, 2) := DX7_comeToAfter _ _ _ rfl
theorem dX7_comeToAfter_7 : decode cX7_comeToAfter 7 = .ok (.aload_n 0, 1) := DX7_comeToAfter _ _ _ rfl
theorem dX7_comeToAfter_8 : decode cX7_comeToAfter 8 = .ok (.getfield 57, 3) := DX7_comeToAfter _ _ _ rfl
theorem dX7_comeToAfter_11 : decode cX7_comeToAfter 11 = .ok (.if_icmp .ge 33, 3) := DX7_comeToAfter _ _ _ rfl
theorem dX7_comeToAfter_44 : decode cX7_comeToAfter 44 = .ok (.iload_n 3, 1) := DX7_comeToAfter _ _ _ rfl
theorem dX7_comeToAfter_45 : decode cX7_comeToAfter 45 = .ok (.ireturn, 1) := DX7_comeToAfter _ _ _ rfl
theorem dX7_comeToAfter_14 : decode cX7_comeToAfter 14 = .ok (.iload_n 1, 1) := DX7_comeToAfter _ _ _ rfl
theorem dX7_comeToAfter_15 : decode cX7_comeToAfter 15 = .ok (.iload 4, 2) := DX7_comeToAfter _ _ _ rfl
theorem dX7_comeToAfter_17 : decode cX7_comeToAfter 17 = .ok (.invokestatic 77, 3) := DX7_comeToAfter _ _ _ rfl
theorem dX7_comeToAfter_20 : decode cX7_comeToAfter 20 = .ok (.ifCond .eq 18, 3) := DX7_comeToAfter _ _ _ rfl
theorem dX7_comeToAfter_38 : decode cX7_comeToAfter 38 = .ok (.iinc 4 1, 3) := DX7_comeToAfter _ _ _ rfl
theorem dX7_comeToAfter_41 : decode cX7_comeToAfter 41 = .ok (.goto (-36), 3) := DX7_comeToAfter _ _ _ rfl
theorem dX7_comeToAfter_23 : decode cX7_comeToAfter 23 = .ok (.iload_n 3, 1) := DX7_comeToAfter _ _ _ rfl
theorem dX7_comeToAfter_24 : decode cX7_comeToAfter 24 = .ok (.aload_n 0, 1) := DX7_comeToAfter _ _ _ rfl
theorem dX7_comeToAfter_25 : decode cX7_comeToAfter 25 = .ok (.getfield 18, 3) := DX7_comeToAfter _ _ _ rfl
theorem dX7_comeToAfter_28 : decode cX7_comeToAfter 28 = .ok (.iload_n 2, 1) := DX7_comeToAfter _ _ _ rfl
theorem dX7_comeToAfter_29 : decode cX7_comeToAfter 29 = .ok (.bipush 7, 2) := DX7_comeToAfter _ _ _ rfl
theorem dX7_comeToAfter_31 : decode cX7_comeToAfter 31 = .ok (.imul, 1) := DX7_comeToAfter _ _ _ rfl
theorem dX7_comeToAfter_32 : decode cX7_comeToAfter 32 = .ok (.iload 4, 2) := DX7_comeToAfter _ _ _ rfl
theorem dX7_comeToAfter_34 : decode cX7_comeToAfter 34 = .ok (.iadd, 1) := DX7_comeToAfter _ _ _ rfl
theorem dX7_comeToAfter_35 : decode cX7_comeToAfter 35 = .ok (.iaload, 1) := DX7_comeToAfter _ _ _ rfl
theorem dX7_comeToAfter_36 : decode cX7_comeToAfter 36 = .ok (.ior, 1) := DX7_comeToAfter _ _ _ rfl
theorem dX7_comeToAfter_37 : decode cX7_comeToAfter 37 = .ok (.istore_n 3, 1) := DX7_comeToAfter _ _ _ rfl
theorem dX7_upperEnd_0 : decode cX7_upperEnd 0 = .ok (.iload_n 1, 1) := DX7_upperEnd _ _ _ rfl
theorem dX7_upperEnd_1 : decode cX7_upperEnd 1 = .ok (.aload_n 0, 1) := DX7_upperEnd _ _ _ rfl
theorem dX7_upperEnd_2 : decode cX7_upperEnd 2 = .ok (.getfield 69, 3) := DX7_upperEnd _ _ _ rfl
theorem dX7_upperEnd_5 : decode cX7_upperEnd 5 = .ok (.iand, 1) := DX7_upperEnd _ _ _ rfl
theorem dX7_upperEnd_6 : decode cX7_upperEnd 6 = .ok (.istore 4, 2) := DX7_upperEnd _ _ _ rfl
theorem dX7_upperEnd_8 : decode cX7_upperEnd 8 = .ok (.iload 4, 2) := DX7_upperEnd _ _ _ rfl
theorem dX7_upperEnd_10 : decode cX7_upperEnd 10 = .ok (.invokestatic 153, 3) := DX7_upperEnd _ _ _ rfl
theorem dX7_upperEnd_13 : decode cX7_upperEnd 13 = .ok (.istore 5, 2) := DX7_upperEnd _ _ _ rfl
theorem dX7_upperEnd_15 : decode cX7_upperEnd 15 = .ok (.iload_n 2, 1) := DX7_upperEnd _ _ _ rfl
theorem dX7_upperEnd_16 : decode cX7_upperEnd 16 = .ok (.istore 6, 2) := DX7_upperEnd _ _ _ rfl
theorem dX7_upperEnd_18 : decode cX7_upperEnd 18 = .ok (.iload 6, 2) := DX7_upperEnd _ _ _ rfl
theorem dX7_upperEnd_20 : decode cX7_upperEnd 20 = .ok (.iload_n 2, 1) := DX7_upperEnd _ _ _ rfl
theorem dX7_upperEnd_21 : decode cX7_upperEnd 21 = .ok (.iload_n 3, 1) := DX7_upperEnd _ _ _ rfl
theorem dX7_upperEnd_22 : decode cX7_upperEnd 22 = .ok (.iadd, 1) := DX7_upperEnd _ _ _ rfl
theorem dX7_upperEnd_23 : decode cX7_upperEnd 23 = .ok (.if_icmp .ge 33, 3) := DX7_upperEnd _ _ _ rfl
theorem dX7_upperEnd_56 : decode cX7_upperEnd 56 = .ok (.iload 5, 2) := DX7_upperEnd _ _ _ rfl
theorem dX7_upperEnd_58 : decode cX7_upperEnd 58 = .ok (.ireturn, 1) := DX7_upperEnd _ _ _ rfl
theorem dX7_upperEnd_26 : decode cX7_upperEnd 26 = .ok (.aload_n 0, 1) := DX7_upperEnd _ _ _ rfl
theorem dX7_upperEnd_27 : decode cX7_upperEnd 27 = .ok (.iload 4, 2) := DX7_upperEnd _ _ _ rfl
theorem dX7_upperEnd_29 : decode cX7_upperEnd 29 = .ok (.iload 6, 2) := DX7_upperEnd _ _ _ rfl
theorem dX7_upperEnd_31 : decode cX7_upperEnd 31 = .ok (.invokevirtual 150, 3) := DX7_upperEnd _ _ _ rfl
theorem dX7_upperEnd_34 : decode cX7_upperEnd 34 = .ok (.istore 4, 2) := DX7_upperEnd _ _ _ rfl
theorem dX7_upperEnd_36 : decode cX7_upperEnd 36 = .ok (.iconst 2, 1) := DX7_upperEnd _ _ _ rfl
theorem dX7_upperEnd_37 : decode cX7_upperEnd 37 = .ok (.iload 5, 2) := DX7_upperEnd _ _ _ rfl
theorem dX7_upperEnd_39 : decode cX7_upperEnd 39 = .ok (.imul, 1) := DX7_upperEnd _ _ _ rfl
theorem dX7_upperEnd_40 : decode cX7_upperEnd 40 = .ok (.iload 4, 2) := DX7_upperEnd _ _ _ rfl
theorem dX7_upperEnd_42 : decode cX7_upperEnd 42 = .ok (.invokestatic 153, 3) := DX7_upperEnd _ _ _ rfl
theorem mm_X7_45 : (Cond.methodLink "NoonValley$Spreading" 158 Lib.Math.min.name) ∈ BW := bw (tb4 95 rfl) (by decide +kernel)
theorem dX7_upperEnd_45 : decode cX7_upperEnd 45 = .ok (.invokestatic 158, 3) := DX7_upperEnd _ _ _ rfl
theorem dX7_upperEnd_48 : decode cX7_upperEnd 48 = .ok (.istore 5, 2) := DX7_upperEnd _ _ _ rfl
theorem dX7_upperEnd_50 : decode cX7_upperEnd 50 = .ok (.iinc 6 1, 3) := DX7_upperEnd _ _ _ rfl
theorem dX7_upperEnd_53 : decode cX7_upperEnd 53 = .ok (.goto (-35), 3) := DX7_upperEnd _ _ _ rfl
theorem dX11_reach_12 : decode cX11_reach 12 = .ok (.iload_n 2, 1) := DX11_reach _ _ _ rfl
theorem dX11_reach_13 : decode cX11_reach 13 = .ok (.invokestatic 208, 3) := DX11_reach _ _ _ rfl
theorem dX11_reach_16 : decode cX11_reach 16 = .ok (.ifCond .eq 24, 3) := DX11_reach _ _ _ rfl
theorem dX11_reach_19 : decode cX11_reach 19 = .ok (.iload_n 3, 1) := DX11_reach _ _ _ rfl
theorem dX11_reach_20 : decode cX11_reach 20 = .ok (.invokestatic 134, 3) := DX11_reach _ _ _ rfl
theorem dX11_reach_23 : decode cX11_reach 23 = .ok (.ifCond .eq 17, 3) := DX11_reach _ _ _ rfl
theorem dX11_reach_26 : decode cX11_reach 26 = .ok (.iload 4, 2) := DX11_reach _ _ _ rfl
theorem dX11_reach_28 : decode cX11_reach 28 = .ok (.ifCond .lt 12, 3) := DX11_reach _ _ _ rfl
theorem dX11_reach_31 : decode cX11_reach 31 = .ok (.iload 4, 2) := DX11_reach _ _ _ rfl
theorem dX11_reach_33 : decode cX11_reach 33 = .ok (.bipush 25, 2) := DX11_reach _ _ _ rfl
theorem dX11_reach_35 : decode cX11_reach 35 = .ok (.iload_n 3, 1) := DX11_reach _ _ _ rfl
theorem dX11_reach_36 : decode cX11_reach 36 = .ok (.isub, 1) := DX11_reach _ _ _ rfl
theorem dX11_reach_37 : decode cX11_reach 37 = .ok (.if_icmp .le 5, 3) := DX11_reach _ _ _ rfl
theorem dX11_reach_42 : decode cX11_reach 42 = .ok (.aload_n 0, 1) := DX11_reach _ _ _ rfl
theorem dX11_reach_43 : decode cX11_reach 43 = .ok (.getfield 38, 3) := DX11_reach _ _ _ rfl
theorem dX11_reach_46 : decode cX11_reach 46 = .ok (.aload 5, 2) := DX11_reach _ _ _ rfl
theorem dX11_reach_48 : decode cX11_reach 48 = .ok (.iload_n 2, 1) := DX11_reach _ _ _ rfl
theorem dX11_reach_49 : decode cX11_reach 49 = .ok (.invokevirtual 211, 3) := DX11_reach _ _ _ rfl
theorem dX11_reach_52 : decode cX11_reach 52 = .ok (.aload_n 0, 1) := DX11_reach _ _ _ rfl
theorem dX11_reach_53 : decode cX11_reach 53 = .ok (.getfield 38, 3) := DX11_reach _ _ _ rfl
theorem dX11_reach_56 : decode cX11_reach 56 = .ok (.aload 5, 2) := DX11_reach _ _ _ rfl
theorem dX11_reach_58 : decode cX11_reach 58 = .ok (.getfield 114, 3) := DX11_reach _ _ _ rfl
theorem dX11_reach_61 : decode cX11_reach 61 = .ok (.iload_n 2, 1) := DX11_reach _ _ _ rfl
theorem dX11_reach_62 : decode cX11_reach 62 = .ok (.iaload, 1) := DX11_reach _ _ _ rfl
theorem dX11_reach_63 : decode cX11_reach 63 = .ok (.iload_n 3, 1) := DX11_reach _ _ _ rfl
theorem dX11_reach_64 : decode cX11_reach 64 = .ok (.iload 4, 2) := DX11_reach _ _ _ rfl
theorem dX11_reach_66 : decode cX11_reach 66 = .ok (.invokevirtual 227, 3) := DX11_reach _ _ _ rfl
theorem dX11_reach_69 : decode cX11_reach 69 = .ok (.ireturn, 1) := DX11_reach _ _ _ rfl
theorem dX12_isAsked_13 : decode cX12_isAsked 13 = .ok (.iload_n 2, 1) := DX12_isAsked _ _ _ rfl
theorem dX12_isAsked_14 : decode cX12_isAsked 14 = .ok (.invokestatic 308, 3) := DX12_isAsked _ _ _ rfl
theorem dX12_isAsked_17 : decode cX12_isAsked 17 = .ok (.ifCond .eq 7, 3) := DX12_isAsked _ _ _ rfl
theorem dX12_isAsked_20 : decode cX12_isAsked 20 = .ok (.iconst 1, 1) := DX12_isAsked _ _ _ rfl
theorem dX12_isAsked_21 : decode cX12_isAsked 21 = .ok (.goto 4, 3) := DX12_isAsked _ _ _ rfl
theorem dX12_spread_0 : decode cX12_spread 0 = .ok (.iload 5, 2) := DX12_spread _ _ _ rfl
theorem dX12_spread_2 : decode cX12_spread 2 = .ok (.istore 7, 2) := DX12_spread _ _ _ rfl
theorem dX12_spread_4 : decode cX12_spread 4 = .ok (.iconst 0, 1) := DX12_spread _ _ _ rfl
theorem dX12_spread_5 : decode cX12_spread 5 = .ok (.istore 8, 2) := DX12_spread _ _ _ rfl
theorem dX12_spread_7 : decode cX12_spread 7 = .ok (.iload 8, 2) := DX12_spread _ _ _ rfl
theorem dX12_spread_9 : decode cX12_spread 9 = .ok (.aload_n 0, 1) := DX12_spread _ _ _ rfl
theorem dX12_spread_10 : decode cX12_spread 10 = .ok (.getfield 17, 3) := DX12_spread _ _ _ rfl
theorem dX12_spread_13 : decode cX12_spread 13 = .ok (.iload_n 1, 1) := DX12_spread _ _ _ rfl
theorem dX12_spread_14 : decode cX12_spread 14 = .ok (.iaload, 1) := DX12_spread _ _ _ rfl
theorem dX12_spread_15 : decode cX12_spread 15 = .ok (.if_icmp .ge 117, 3) := DX12_spread _ _ _ rfl
theorem dX12_spread_132 : decode cX12_spread 132 = .ok (.iload 7, 2) := DX12_spread _ _ _ rfl
theorem dX12_spread_134 : decode cX12_spread 134 = .ok (.iload 6, 2) := DX12_spread _ _ _ rfl
theorem dX12_spread_136 : decode cX12_spread 136 = .ok (.iconst (-1), 1) := DX12_spread _ _ _ rfl
theorem dX12_spread_137 : decode cX12_spread 137 = .ok (.ixor, 1) := DX12_spread _ _ _ rfl
theorem dX12_spread_138 : decode cX12_spread 138 = .ok (.iand, 1) := DX12_spread _ _ _ rfl
theorem dX12_spread_139 : decode cX12_spread 139 = .ok (.ireturn, 1) := DX12_spread _ _ _ rfl
theorem dX12_spread_18 : decode cX12_spread 18 = .ok (.bipush 12, 2) := DX12_spread _ _ _ rfl
theorem dX12_spread_20 : decode cX12_spread 20 = .ok (.iload_n 1, 1) := DX12_spread _ _ _ rfl
theorem dX12_spread_21 : decode cX12_spread 21 = .ok (.imul, 1) := DX12_spread _ _ _ rfl
theorem dX12_spread_22 : decode cX12_spread 22 = .ok (.iload 8, 2) := DX12_spread _ _ _ rfl
theorem dX12_spread_24 : decode cX12_spread 24 = .ok (.iadd, 1) := DX12_spread _ _ _ rfl
theorem dX12_spread_25 : decode cX12_spread 25 = .ok (.istore 9, 2) := DX12_spread _ _ _ rfl
theorem dX12_spread_27 : decode cX12_spread 27 = .ok (.aload_n 0, 1) := DX12_spread _ _ _ rfl
theorem dX12_spread_28 : decode cX12_spread 28 = .ok (.iload 9, 2) := DX12_spread _ _ _ rfl
theorem dX12_spread_30 : decode cX12_spread 30 = .ok (.iload_n 3, 1) := DX12_spread _ _ _ rfl
theorem dX12_spread_31 : decode cX12_spread 31 = .ok (.invokevirtual 234, 3) := DX12_spread _ _ _ rfl
theorem dX12_spread_34 : decode cX12_spread 34 = .ok (.ifCond .eq 92, 3) := DX12_spread _ _ _ rfl
theorem dX12_spread_126 : decode cX12_spread 126 = .ok (.iinc 8 1, 3) := DX12_spread _ _ _ rfl
theorem dX12_spread_129 : decode cX12_spread 129 = .ok (.goto (-122), 3) := DX12_spread _ _ _ rfl
theorem dX12_spread_37 : decode cX12_spread 37 = .ok (.iload_n 2, 1) := DX12_spread _ _ _ rfl
theorem dX12_spread_38 : decode cX12_spread 38 = .ok (.iload 8, 2) := DX12_spread _ _ _ rfl
theorem dX12_spread_40 : decode cX12_spread 40 = .ok (.ishr, 1) := DX12_spread _ _ _ rfl
theorem dX12_spread_41 : decode cX12_spread 41 = .ok (.iconst 1, 1) := DX12_spread _ _ _ rfl
theorem dX12_spread_42 : decode cX12_spread 42 = .ok (.iand, 1) := DX12_spread _ _ _ rfl
theorem dX12_spread_43 : decode cX12_spread 43 = .ok (.iconst 1, 1) := DX12_spread _ _ _ rfl
theorem dX12_spread_44 : decode cX12_spread 44 = .ok (.if_icmp .ne 12, 3) := DX12_spread _ _ _ rfl
theorem dX12_spread_56 : decode cX12_spread 56 = .ok (.iload 5, 2) := DX12_spread _ _ _ rfl
theorem dX12_spread_58 : decode cX12_spread 58 = .ok (.aload_n 0, 1) := DX12_spread _ _ _ rfl
theorem dX12_spread_59 : decode cX12_spread 59 = .ok (.getfield 32, 3) := DX12_spread _ _ _ rfl
theorem dX12_spread_62 : decode cX12_spread 62 = .ok (.iload 9, 2) := DX12_spread _ _ _ rfl
theorem dX12_spread_64 : decode cX12_spread 64 = .ok (.iaload, 1) := DX12_spread _ _ _ rfl
theorem dX12_spread_65 : decode cX12_spread 65 = .ok (.ishr, 1) := DX12_spread _ _ _ rfl
theorem dX12_spread_66 : decode cX12_spread 66 = .ok (.iconst 1, 1) := DX12_spread _ _ _ rfl
theorem dX12_spread_67 : decode cX12_spread 67 = .ok (.iand, 1) := DX12_spread _ _ _ rfl
theorem dX12_spread_68 : decode cX12_spread 68 = .ok (.iconst 1, 1) := DX12_spread _ _ _ rfl
theorem dX12_spread_69 : decode cX12_spread 69 = .ok (.if_icmp .ne 17, 3) := DX12_spread _ _ _ rfl
theorem dX12_spread_86 : decode cX12_spread 86 = .ok (.aload_n 0, 1) := DX12_spread _ _ _ rfl
theorem dX12_spread_87 : decode cX12_spread 87 = .ok (.getfield 47, 3) := DX12_spread _ _ _ rfl
theorem dX12_spread_90 : decode cX12_spread 90 = .ok (.iload 9, 2) := DX12_spread _ _ _ rfl
theorem dX12_spread_92 : decode cX12_spread 92 = .ok (.baload, 1) := DX12_spread _ _ _ rfl
theorem dX12_spread_93 : decode cX12_spread 93 = .ok (.ifCond .ne 33, 3) := DX12_spread _ _ _ rfl
theorem dX12_spread_96 : decode cX12_spread 96 = .ok (.iload 5, 2) := DX12_spread _ _ _ rfl
theorem dX12_spread_98 : decode cX12_spread 98 = .ok (.aload_n 0, 1) := DX12_spread _ _ _ rfl
theorem dX12_spread_99 : decode cX12_spread 99 = .ok (.getfield 35, 3) := DX12_spread _ _ _ rfl
theorem dX12_spread_102 : decode cX12_spread 102 = .ok (.iload 9, 2) := DX12_spread _ _ _ rfl
theorem dX12_spread_104 : decode cX12_spread 104 = .ok (.iaload, 1) := DX12_spread _ _ _ rfl
theorem dX12_spread_105 : decode cX12_spread 105 = .ok (.ishr, 1) := DX12_spread _ _ _ rfl
theorem dX12_spread_106 : decode cX12_spread 106 = .ok (.iconst 1, 1) := DX12_spread _ _ _ rfl
theorem dX12_spread_107 : decode cX12_spread 107 = .ok (.iand, 1) := DX12_spread _ _ _ rfl
theorem dX12_spread_108 : decode cX12_spread 108 = .ok (.iconst 1, 1) := DX12_spread _ _ _ rfl
theorem dX12_spread_109 : decode cX12_spread 109 = .ok (.if_icmp .ne 17, 3) := DX12_spread _ _ _ rfl
theorem dX12_spread_112 : decode cX12_spread 112 = .ok (.iload 7, 2) := DX12_spread _ _ _ rfl
theorem dX12_spread_114 : decode cX12_spread 114 = .ok (.iconst 1, 1) := DX12_spread _ _ _ rfl
theorem dX12_spread_115 : decode cX12_spread 115 = .ok (.aload_n 0, 1) := DX12_spread _ _ _ rfl
theorem dX12_spread_116 : decode cX12_spread 116 = .ok (.getfield 32, 3) := DX12_spread _ _ _ rfl
theorem dX12_spread_119 : decode cX12_spread 119 = .ok (.iload 9, 2) := DX12_spread _ _ _ rfl
theorem dX12_spread_121 : decode cX12_spread 121 = .ok (.iaload, 1) := DX12_spread _ _ _ rfl
theorem dX12_spread_122 : decode cX12_spread 122 = .ok (.ishl, 1) := DX12_spread _ _ _ rfl
theorem dX12_spread_123 : decode cX12_spread 123 = .ok (.ior, 1) := DX12_spread _ _ _ rfl
theorem dX12_spread_124 : decode cX12_spread 124 = .ok (.istore 7, 2) := DX12_spread _ _ _ rfl
theorem dX12_spread_72 : decode cX12_spread 72 = .ok (.iload 7, 2) := DX12_spread _ _ _ rfl
theorem dX12_spread_74 : decode cX12_spread 74 = .ok (.iconst 1, 1) := DX12_spread _ _ _ rfl
theorem dX12_spread_75 : decode cX12_spread 75 = .ok (.aload_n 0, 1) := DX12_spread _ _ _ rfl
theorem dX12_spread_76 : decode cX12_spread 76 = .ok (.getfield 35, 3) := DX12_spread _ _ _ rfl
theorem dX12_spread_79 : decode cX12_spread 79 = .ok (.iload 9, 2) := DX12_spread _ _ _ rfl
theorem dX12_spread_81 : decode cX12_spread 81 = .ok (.iaload, 1) := DX12_spread _ _ _ rfl
theorem dX12_spread_82 : decode cX12_spread 82 = .ok (.ishl, 1) := DX12_spread _ _ _ rfl
theorem dX12_spread_83 : decode cX12_spread 83 = .ok (.ior, 1) := DX12_spread _ _ _ rfl
theorem dX12_spread_84 : decode cX12_spread 84 = .ok (.istore 7, 2) := DX12_spread _ _ _ rfl
theorem dX12_spread_47 : decode cX12_spread 47 = .ok (.iload_n 3, 1) := DX12_spread _ _ _ rfl
theorem dX12_spread_48 : decode cX12_spread 48 = .ok (.iload 4, 2) := DX12_spread _ _ _ rfl
theorem dX12_spread_50 : decode cX12_spread 50 = .ok (.if_icmp .lt 6, 3) := DX12_spread _ _ _ rfl
theorem dX12_spread_53 : decode cX12_spread 53 = .ok (.goto 73, 3) := DX12_spread _ _ _ rfl
theorem dX12_reach_9 : decode cX12_reach 9 = .ok (.iload_n 3, 1) := DX12_reach _ _ _ rfl
theorem dX12_reach_10 : decode cX12_reach 10 = .ok (.invokestatic 228, 3) := DX12_reach _ _ _ rfl
theorem dX12_reach_13 : decode cX12_reach 13 = .ok (.ifCond .eq 16, 3) := DX12_reach _ _ _ rfl
theorem dX12_reach_16 : decode cX12_reach 16 = .ok (.iload 4, 2) := DX12_reach _ _ _ rfl
theorem dX12_reach_18 : decode cX12_reach 18 = .ok (.iconst 0, 1) := DX12_reach _ _ _ rfl
theorem dX12_reach_19 : decode cX12_reach 19 = .ok (.bipush 25, 2) := DX12_reach _ _ _ rfl
theorem dX12_reach_21 : decode cX12_reach 21 = .ok (.iload_n 3, 1) := DX12_reach _ _ _ rfl
theorem dX12_reach_22 : decode cX12_reach 22 = .ok (.isub, 1) := DX12_reach _ _ _ rfl
theorem dX12_reach_23 : decode cX12_reach 23 = .ok (.invokestatic 198, 3) := DX12_reach _ _ _ rfl
theorem dX12_reach_26 : decode cX12_reach 26 = .ok (.ifCond .ne 5, 3) := DX12_reach _ _ _ rfl
theorem dX12_reach_31 : decode cX12_reach 31 = .ok (.aload_n 0, 1) := DX12_reach _ _ _ rfl
theorem dX12_reach_32 : decode cX12_reach 32 = .ok (.getfield 29, 3) := DX12_reach _ _ _ rfl
theorem dX12_reach_35 : decode cX12_reach 35 = .ok (.iconst 4, 1) := DX12_reach _ _ _ rfl
theorem dX12_reach_36 : decode cX12_reach 36 = .ok (.iload_n 1, 1) := DX12_reach _ _ _ rfl
theorem dX12_reach_37 : decode cX12_reach 37 = .ok (.imul, 1) := DX12_reach _ _ _ rfl
theorem dX12_reach_38 : decode cX12_reach 38 = .ok (.iload_n 2, 1) := DX12_reach _ _ _ rfl
theorem dX12_reach_39 : decode cX12_reach 39 = .ok (.iadd, 1) := DX12_reach _ _ _ rfl
theorem dX12_reach_40 : decode cX12_reach 40 = .ok (.iaload, 1) := DX12_reach _ _ _ rfl
theorem dX12_reach_41 : decode cX12_reach 41 = .ok (.istore 5, 2) := DX12_reach _ _ _ rfl
theorem dX12_reach_43 : decode cX12_reach 43 = .ok (.aload_n 0, 1) := DX12_reach _ _ _ rfl
theorem dX12_reach_44 : decode cX12_reach 44 = .ok (.getfield 23, 3) := DX12_reach _ _ _ rfl
theorem dX12_reach_47 : decode cX12_reach 47 = .ok (.iconst 4, 1) := DX12_reach _ _ _ rfl
theorem dX12_reach_48 : decode cX12_reach 48 = .ok (.iload_n 1, 1) := DX12_reach _ _ _ rfl
theorem dX12_reach_49 : decode cX12_reach 49 = .ok (.imul, 1) := DX12_reach _ _ _ rfl
theorem dX12_reach_50 : decode cX12_reach 50 = .ok (.iload_n 2, 1) := DX12_reach _ _ _ rfl
theorem dX12_reach_51 : decode cX12_reach 51 = .ok (.iadd, 1) := DX12_reach _ _ _ rfl
theorem dX12_reach_52 : decode cX12_reach 52 = .ok (.iaload, 1) := DX12_reach _ _ _ rfl
theorem dX12_reach_53 : decode cX12_reach 53 = .ok (.iload 5, 2) := DX12_reach _ _ _ rfl
theorem dX12_reach_55 : decode cX12_reach 55 = .ok (.iconst (-1), 1) := DX12_reach _ _ _ rfl
theorem dX12_reach_56 : decode cX12_reach 56 = .ok (.ixor, 1) := DX12_reach _ _ _ rfl
theorem dX12_reach_57 : decode cX12_reach 57 = .ok (.iand, 1) := DX12_reach _ _ _ rfl
theorem dX12_reach_58 : decode cX12_reach 58 = .ok (.istore 6, 2) := DX12_reach _ _ _ rfl
theorem dX12_reach_60 : decode cX12_reach 60 = .ok (.iload 6, 2) := DX12_reach _ _ _ rfl
theorem dX12_reach_62 : decode cX12_reach 62 = .ok (.invokestatic 334, 3) := DX12_reach _ _ _ rfl
theorem dX12_reach_65 : decode cX12_reach 65 = .ok (.istore 7, 2) := DX12_reach _ _ _ rfl
theorem dX12_reach_67 : decode cX12_reach 67 = .ok (.iconst 0, 1) := DX12_reach _ _ _ rfl
theorem dX12_reach_68 : decode cX12_reach 68 = .ok (.istore 8, 2) := DX12_reach _ _ _ rfl
theorem dX12_reach_70 : decode cX12_reach 70 = .ok (.iload 8, 2) := DX12_reach _ _ _ rfl
theorem dX12_reach_72 : decode cX12_reach 72 = .ok (.iload 4, 2) := DX12_reach _ _ _ rfl
theorem dX12_reach_74 : decode cX12_reach 74 = .ok (.if_icmp .ge 40, 3) := DX12_reach _ _ _ rfl
theorem dX12_reach_114 : decode cX12_reach 114 = .ok (.iload 7, 2) := DX12_reach _ _ _ rfl
theorem dX12_reach_116 : decode cX12_reach 116 = .ok (.ireturn, 1) := DX12_reach _ _ _ rfl
theorem dX12_reach_77 : decode cX12_reach 77 = .ok (.aload_n 0, 1) := DX12_reach _ _ _ rfl
theorem dX12_reach_78 : decode cX12_reach 78 = .ok (.iload_n 1, 1) := DX12_reach _ _ _ rfl
theorem dX12_reach_79 : decode cX12_reach 79 = .ok (.iconst 0, 1) := DX12_reach _ _ _ rfl
theorem dX12_reach_80 : decode cX12_reach 80 = .ok (.iload_n 3, 1) := DX12_reach _ _ _ rfl
theorem dX12_reach_81 : decode cX12_reach 81 = .ok (.iload 8, 2) := DX12_reach _ _ _ rfl
theorem dX12_reach_83 : decode cX12_reach 83 = .ok (.iadd, 1) := DX12_reach _ _ _ rfl
theorem dX12_reach_84 : decode cX12_reach 84 = .ok (.iconst 0, 1) := DX12_reach _ _ _ rfl
theorem dX12_reach_85 : decode cX12_reach 85 = .ok (.iload 6, 2) := DX12_reach _ _ _ rfl
theorem dX12_reach_87 : decode cX12_reach 87 = .ok (.iload 5, 2) := DX12_reach _ _ _ rfl
theorem dX12_reach_89 : decode cX12_reach 89 = .ok (.invokevirtual 339, 3) := DX12_reach _ _ _ rfl
theorem dX12_reach_92 : decode cX12_reach 92 = .ok (.istore 6, 2) := DX12_reach _ _ _ rfl
theorem dX12_reach_94 : decode cX12_reach 94 = .ok (.iconst 2, 1) := DX12_reach _ _ _ rfl
theorem dX12_reach_95 : decode cX12_reach 95 = .ok (.iload 7, 2) := DX12_reach _ _ _ rfl
theorem dX12_reach_97 : decode cX12_reach 97 = .ok (.imul, 1) := DX12_reach _ _ _ rfl
theorem dX12_reach_98 : decode cX12_reach 98 = .ok (.iload 6, 2) := DX12_reach _ _ _ rfl
theorem dX12_reach_100 : decode cX12_reach 100 = .ok (.invokestatic 334, 3) := DX12_reach _ _ _ rfl
theorem mm_X12_103 : (Cond.methodLink "NoonValleyModel" 296 Lib.Math.min.name) ∈ BW := bw (tb7 189 rfl) (by decide +kernel)
theorem dX12_reach_103 : decode cX12_reach 103 = .ok (.invokestatic 296, 3) := DX12_reach _ _ _ rfl
theorem dX12_reach_106 : decode cX12_reach 106 = .ok (.istore 7, 2) := DX12_reach _ _ _ rfl
theorem dX12_reach_108 : decode cX12_reach 108 = .ok (.iinc 8 1, 3) := DX12_reach _ _ _ rfl
theorem dX12_reach_111 : decode cX12_reach 111 = .ok (.goto (-41), 3) := DX12_reach _ _ _ rfl
def L2_X7_prepares (pe : Nat) (mn : Nat → Int32) (K : Nat → Int32) (nw : Nat) (j1 : Nat) (j2 : Nat) (fzc_2 : Nat → Int32) : (Nat → Int32) := if hasv ((evy (nI pe)) &&& ((mn nw) ^^^ (-1 : Int32))) (nI j2) = 0 then ((upd fzc_2 ((j1 + 1) * 7 + j2) (0 : Int32))) else ((upd fzc_2 ((j1 + 1) * 7 + j2) ((F_X10_callable K j2 (j1 + 1)) &&& ((evy (nI pe)) &&& ((mn nw) ^^^ (-1 : Int32))))))
def L2_X7_prepare (pe : Nat) (mn : Nat → Int32) (K : Nat → Int32) (nw : Nat) (j1 : Nat) (i0_ : Nat → Int32) : Nat → (Nat → Int32)
  | 0 => (i0_)
  | k_ + 1 => L2_X7_prepares pe mn K nw j1 k_ (L2_X7_prepare pe mn K nw j1 i0_ k_)
def L1_X7_prepares (pe : Nat) (mn : Nat → Int32) (K : Nat → Int32) (nw : Nat) (j1 : Nat) (fzc_1 : Nat → Int32) : (Nat → Int32) := (L2_X7_prepare pe mn K nw j1 fzc_1 pe)
def L1_X7_prepare (pe : Nat) (mn : Nat → Int32) (K : Nat → Int32) (nw : Nat) (i0_ : Nat → Int32) : Nat → (Nat → Int32)
  | 0 => (i0_)
  | k_ + 1 => L1_X7_prepares pe mn K nw k_ (L1_X7_prepare pe mn K nw i0_ k_)
def F_X7_prepare (cA : Nat → Int32) (pe : Nat) (de : Int32) (mu : Nat → Int32) (mn : Nat → Int32) (K : Nat → Int32) (nw : Nat) : Int32 × Int32 × Int32 × (Nat → Int32) := (de, (evy (nI pe)) &&& ((mn nw) ^^^ (-1 : Int32)), mu nw, (L1_X7_prepare pe mn K nw cA 24))
set_option maxHeartbeats 4000000 in
set_option maxRecDepth 100000 in
theorem K_X7_prepare (l : Launch) (g : GG) (z0 : Nat) (zr : Nat) (zc : Nat) (ze1 : Nat) (ze2 : Nat) (ze3 : Nat) (ze4 : Nat) (ze5 : Nat) (ze6 : Nat) (zp : Int32) (zd : Int32) (zt : Int32) (zm : Int32) (zi0 : Int32) (zi1 : Int32) (zi2 : Int32) (zi3 : Int32) (zi4 : Int32) (cA : Nat → Int32) (v : Nat) (v3 : Nat) (v4 : Nat) (v5 : Nat) (v6 : Nat) (v7 : Nat) (v8 : Nat) (v9 : Nat) (v10 : Nat) (v11 : Nat) (v12 : Nat) (v13 : Nat) (v15 : Nat) (pe : Nat) (lc : Int32) (de : Int32) (gl : Int32) (mu : Nat → Int32) (mn : Nat → Int32) (K : Nat → Int32) (nw : Nat) (hpe : pe ≤ 7) (hnw : nw < 4) : MetV l g yX7_prepare cX7_prepare 6 none 1 0 0 [.ref z0, .ref v, .int (nI nw)] [(z0, .inr (7, [.ref zr, .int zp, .int zd, .int zt, .int zm, .ref zc, .ref ze1, .ref ze2, .ref ze3, .ref ze4, .ref ze5, .ref ze6, .int zi0, .int zi1, .int zi2, .int zi3, .int zi4])), (zc, .inl (g.2.1 1, 175, .inl cA)), (v, .inr (10, [.int (nI pe), .int lc, .int de, .ref v3, .ref v4, .ref v5, .ref v6, .ref v7, .ref v8, .ref v9, .ref v10, .ref v11, .ref v12, .ref v13, .int gl, .ref v15])), (v4, .inl (g.2.1 1, 4, .inl mu)), (v5, .inl (g.2.1 1, 4, .inl mn)), (v10, .inl (g.2.1 1, 175, .inl K))] (fun u => u = [(z0, .inr (7, [.ref zr, .int (nI pe), .int ((F_X7_prepare cA pe de mu mn K nw).1), .int ((F_X7_prepare cA pe de mu mn K nw).2.1), .int ((F_X7_prepare cA pe de mu mn K nw).2.2.1), .ref zc, .ref ze1, .ref ze2, .ref ze3, .ref ze4, .ref ze5, .ref ze6, .int zi0, .int zi1, .int zi2, .int zi3, .int zi4])), (zc, .inl (g.2.1 1, 175, .inl ((F_X7_prepare cA pe de mu mn K nw).2.2.2))), (v, .inr (10, [.int (nI pe), .int lc, .int de, .ref v3, .ref v4, .ref v5, .ref v6, .ref v7, .ref v8, .ref v9, .ref v10, .ref v11, .ref v12, .ref v13, .int gl, .ref v15])), (v4, .inl (g.2.1 1, 4, .inl mu)), (v5, .inl (g.2.1 1, 4, .inl mn)), (v10, .inl (g.2.1 1, 175, .inl K))]) := by
  refine MetV.of (own := RX7) rfl (by decide) (Nat.le_of_ble_eq_true rfl) ?_
  intro p e s m below meth c A ls args Q hQ X hr hin hW hl
  have hx := X.1
  have hb := X.2.1
  have hl : lv_has ls 6 [(0, .ref z0), (1, .ref v), (2, .int (nI nw))] := hl
  refine lv_aload_n (pc := 0) hx hb dX7_prepare_0 rfl (lv_at hl 0 rfl) ?_
  refine lv_aload_n (pc := 1) hx hb dX7_prepare_1 rfl (lv_at hl 1 rfl) ?_
  refine r_getN X hW 2 ciX10 0 rfl (by decide) m_275 rfl rfl dX7_prepare_2 ?_
  refine r_put (ws' := [(z0, .inr (7, [.ref zr, .int (nI pe), .int zd, .int zt, .int zm, .ref zc, .ref ze1, .ref ze2, .ref ze3, .ref ze4, .ref ze5, .ref ze6, .int zi0, .int zi1, .int zi2, .int zi3, .int zi4])), (zc, .inl (g.2.1 1, 175, .inl cA)), (v, .inr (10, [.int (nI pe), .int lc, .int de, .ref v3, .ref v4, .ref v5, .ref v6, .ref v7, .ref v8, .ref v9, .ref v10, .ref v11, .ref v12, .ref v13, .int gl, .ref v15])), (v4, .inl (g.2.1 1, 4, .inl mu)), (v5, .inl (g.2.1 1, 4, .inl mn)), (v10, .inl (g.2.1 1, 175, .inl K))]) X hW 0 ciX7 1 rfl (by decide) m_114 rfl rfl rfl rfl (Nat.le_of_ble_eq_true rfl) rfl dX7_prepare_5 (fun H locs hW => ?_)
  refine lv_aload_n (pc := 8) hx hb dX7_prepare_8 rfl (lv_at hl 0 rfl) ?_
  refine lv_aload_n (pc := 9) hx hb dX7_prepare_9 rfl (lv_at hl 1 rfl) ?_
  refine r_getN X hW 2 ciX10 2 rfl (by decide) m_288 rfl rfl dX7_prepare_10 ?_
  refine r_put (ws' := [(z0, .inr (7, [.ref zr, .int (nI pe), .int de, .int zt, .int zm, .ref zc, .ref ze1, .ref ze2, .ref ze3, .ref ze4, .ref ze5, .ref ze6, .int zi0, .int zi1, .int zi2, .int zi3, .int zi4])), (zc, .inl (g.2.1 1, 175, .inl cA)), (v, .inr (10, [.int (nI pe), .int lc, .int de, .ref v3, .ref v4, .ref v5, .ref v6, .ref v7, .ref v8, .ref v9, .ref v10, .ref v11, .ref v12, .ref v13, .int gl, .ref v15])), (v4, .inl (g.2.1 1, 4, .inl mu)), (v5, .inl (g.2.1 1, 4, .inl mn)), (v10, .inl (g.2.1 1, 175, .inl K))]) X hW 0 ciX7 2 rfl (by decide) m_115 rfl rfl rfl rfl (Nat.le_of_ble_eq_true rfl) rfl dX7_prepare_13 (fun H locs hW => ?_)
  refine lv_aload_n (pc := 16) hx hb dX7_prepare_16 rfl (lv_at hl 0 rfl) ?_
  refine lv_aload_n (pc := 17) hx hb dX7_prepare_17 rfl (lv_at hl 1 rfl) ?_
  refine c_Vi (pc := 18) (As := []) (rest := [.ref z0]) (wr := [(z0, .inr (7, [.ref zr, .int (nI pe), .int de, .int zt, .int zm, .ref zc, .ref ze1, .ref ze2, .ref ze3, .ref ze4, .ref ze5, .ref ze6, .int zi0, .int zi1, .int zi2, .int zi3, .int zi4])), (zc, .inl (g.2.1 1, 175, .inl cA)), (v4, .inl (g.2.1 1, 4, .inl mu)), (v5, .inl (g.2.1 1, 4, .inl mn)), (v10, .inl (g.2.1 1, 175, .inl K))]) X hW 2 ciX10 rfl (C_X10_everyoneG l g v v3 v4 v5 v6 v7 v8 v9 v10 v11 v12 v13 v15 (nI pe) lc de gl) vX7_62 [2] [0, 1, 3, 4, 5] rfl rfl rfl rfl rfl rfl hl.1 rfl (Nat.le_of_ble_eq_true rfl) ⟨Nat.le_of_ble_eq_true rfl, Nat.le_of_ble_eq_true rfl⟩ ⟨Nat.le_of_ble_eq_true rfl, Nat.le_of_ble_eq_true rfl⟩ dX7_prepare_18 (fun r1 u9 H locs hq hW => ?_)
  obtain ⟨rfl, rfl⟩ := hq
  have hW : WD g A s _ _ [(z0, .inr (7, [.ref zr, .int (nI pe), .int de, .int zt, .int zm, .ref zc, .ref ze1, .ref ze2, .ref ze3, .ref ze4, .ref ze5, .ref ze6, .int zi0, .int zi1, .int zi2, .int zi3, .int zi4])), (zc, .inl (g.2.1 1, 175, .inl cA)), (v4, .inl (g.2.1 1, 4, .inl mu)), (v5, .inl (g.2.1 1, 4, .inl mn)), (v10, .inl (g.2.1 1, 175, .inl K)), (v, .inr (10, [.int (nI pe), .int lc, .int de, .ref v3, .ref v4, .ref v5, .ref v6, .ref v7, .ref v8, .ref v9, .ref v10, .ref v11, .ref v12, .ref v13, .int gl, .ref v15]))] := hW
  refine lv_aload_n (pc := 21) hx hb dX7_prepare_21 rfl (lv_at hl 1 rfl) ?_
  refine r_getN X hW 5 ciX10 5 rfl (by decide) m_301 rfl rfl dX7_prepare_22 ?_
  refine lv_iload_n (pc := 25) hx hb dX7_prepare_25 rfl (lv_at hl 2 rfl) ?_
  refine r_iald X hW 3 rfl (vp_in_nI (by omega) (by decide)) dX7_prepare_26 ?_
  refine lv_topi (fun v2 ev2 => ?_)
  obtain rfl : v2 = mn nw := ev2.trans (by rw [nI_clamp (by omega)])
  refine lv_iconst (v := (-1)) (pc := 27) hx hb dX7_prepare_27 (by decide) ?_
  refine lv_ixor (pc := 28) hx hb dX7_prepare_28 ?_
  refine lv_iand (pc := 29) hx hb dX7_prepare_29 ?_
  refine r_put (ws' := [(z0, .inr (7, [.ref zr, .int (nI pe), .int de, .int ((evy (nI pe)) &&& ((mn nw) ^^^ (-1 : Int32))), .int zm, .ref zc, .ref ze1, .ref ze2, .ref ze3, .ref ze4, .ref ze5, .ref ze6, .int zi0, .int zi1, .int zi2, .int zi3, .int zi4])), (zc, .inl (g.2.1 1, 175, .inl cA)), (v4, .inl (g.2.1 1, 4, .inl mu)), (v5, .inl (g.2.1 1, 4, .inl mn)), (v10, .inl (g.2.1 1, 175, .inl K)), (v, .inr (10, [.int (nI pe), .int lc, .int de, .ref v3, .ref v4, .ref v5, .ref v6, .ref v7, .ref v8, .ref v9, .ref v10, .ref v11, .ref v12, .ref v13, .int gl, .ref v15]))]) X hW 0 ciX7 3 rfl (by decide) m_116 rfl rfl rfl rfl (Nat.le_of_ble_eq_true rfl) rfl dX7_prepare_30 (fun H locs hW => ?_)
  refine lv_aload_n (pc := 33) hx hb dX7_prepare_33 rfl (lv_at hl 0 rfl) ?_
  refine lv_aload_n (pc := 34) hx hb dX7_prepare_34 rfl (lv_at hl 1 rfl) ?_
  refine r_getN X hW 5 ciX10 4 rfl (by decide) m_297 rfl rfl dX7_prepare_35 ?_
  refine lv_iload_n (pc := 38) hx hb dX7_prepare_38 rfl (lv_at hl 2 rfl) ?_
  refine r_iald X hW 2 rfl (vp_in_nI (by omega) (by decide)) dX7_prepare_39 ?_
  refine lv_topi (fun v3 ev3 => ?_)
  obtain rfl : v3 = mu nw := ev3.trans (by rw [nI_clamp (by omega)])
  refine r_put (ws' := [(z0, .inr (7, [.ref zr, .int (nI pe), .int de, .int ((evy (nI pe)) &&& ((mn nw) ^^^ (-1 : Int32))), .int (mu nw), .ref zc, .ref ze1, .ref ze2, .ref ze3, .ref ze4, .ref ze5, .ref ze6, .int zi0, .int zi1, .int zi2, .int zi3, .int zi4])), (zc, .inl (g.2.1 1, 175, .inl cA)), (v4, .inl (g.2.1 1, 4, .inl mu)), (v5, .inl (g.2.1 1, 4, .inl mn)), (v10, .inl (g.2.1 1, 175, .inl K)), (v, .inr (10, [.int (nI pe), .int lc, .int de, .ref v3, .ref v4, .ref v5, .ref v6, .ref v7, .ref v8, .ref v9, .ref v10, .ref v11, .ref v12, .ref v13, .int gl, .ref v15]))]) X hW 0 ciX7 4 rfl (by decide) m_117 rfl rfl rfl rfl (Nat.le_of_ble_eq_true rfl) rfl dX7_prepare_40 (fun H locs hW => ?_)
  refine lv_iconst (v := 1) (pc := 43) hx hb dX7_prepare_43 (by decide) ?_
  refine lv_istore_n (lv' := [(3, .int 1), (0, .ref z0), (1, .ref v), (2, .int (nI nw))]) (pc := 44) hx hb dX7_prepare_44 rfl hl (by decide) rfl (fun ls hl => ?_)
  have loop1 : ∀ (fu1 : Nat) (j1 : Nat) (fzc_1 : Nat → Int32), (24 < fu1 + j1) → (j1 ≤ 24) → (fzc_1 = L1_X7_prepare pe mn K nw cA j1) → ∀ (H : Heap) (locs : List Loc) (ls : Array Slot), WD g A s H locs [(z0, .inr (7, [.ref zr, .int (nI pe), .int de, .int ((evy (nI pe)) &&& ((mn nw) ^^^ (-1 : Int32))), .int (mu nw), .ref zc, .ref ze1, .ref ze2, .ref ze3, .ref ze4, .ref ze5, .ref ze6, .int zi0, .int zi1, .int zi2, .int zi3, .int zi4])), (zc, .inl (g.2.1 1, 175, .inl fzc_1)), (v4, .inl (g.2.1 1, 4, .inl mu)), (v5, .inl (g.2.1 1, 4, .inl mn)), (v10, .inl (g.2.1 1, 175, .inl K)), (v, .inr (10, [.int (nI pe), .int lc, .int de, .ref v3, .ref v4, .ref v5, .ref v6, .ref v7, .ref v8, .ref v9, .ref v10, .ref v11, .ref v12, .ref v13, .int gl, .ref v15]))] → lv_has ls 6 [(3, .int (nI (j1 + 1))), (0, .ref z0), (1, .ref v), (2, .int (nI nw))] → W p l e (RM 1 0 0) s m args below meth c H locs 0 0 Q (F0 m 45 ls []) := by
    intro fu1
    induction fu1 with
    | zero =>
      intro j1 fzc_1 hm1 hj1 hst1
      exact absurd hm1 (by omega)
    | succ fu1 ih1 =>
      intro j1 fzc_1 hm1 hj1 hst1 H locs ls hW hl
      refine lv_iload_n (pc := 45) hx hb dX7_prepare_45 rfl (lv_at hl 0 rfl) ?_
      refine lv_bipush (v := 24) (pc := 46) hx hb dX7_prepare_46 (by decide) ?_
      refine lv_icmp_gt (tgt := 119) (pc := 48) hx hb dX7_prepare_48 rfl (fun c4 => ?_) (fun c4 => ?_)
      · have h5 : 24 < (j1 + 1) := (nI_ltI (a := 24) (b := (j1 + 1)) (by omega) (by omega)).mp c4
        have hN1 : j1 = 24 := by omega
        rw [hN1] at hst1
        subst hst1
        have hW : WD g A s _ _ [(z0, .inr (7, [.ref zr, .int (nI pe), .int de, .int ((evy (nI pe)) &&& ((mn nw) ^^^ (-1 : Int32))), .int (mu nw), .ref zc, .ref ze1, .ref ze2, .ref ze3, .ref ze4, .ref ze5, .ref ze6, .int zi0, .int zi1, .int zi2, .int zi3, .int zi4])), (zc, .inl (g.2.1 1, 175, .inl (L1_X7_prepare pe mn K nw cA 24))), (v4, .inl (g.2.1 1, 4, .inl mu)), (v5, .inl (g.2.1 1, 4, .inl mn)), (v10, .inl (g.2.1 1, 175, .inl K)), (v, .inr (10, [.int (nI pe), .int lc, .int de, .ref v3, .ref v4, .ref v5, .ref v6, .ref v7, .ref v8, .ref v9, .ref v10, .ref v11, .ref v12, .ref v13, .int gl, .ref v15]))] := hW
        have hF : F_X7_prepare cA pe de mu mn K nw = (de, (evy (nI pe)) &&& ((mn nw) ^^^ (-1 : Int32)), mu nw, (L1_X7_prepare pe mn K nw cA 24)) := show F_X7_prepare cA pe de mu mn K nw = (de, (evy (nI pe)) &&& ((mn nw) ^^^ (-1 : Int32)), mu nw, (L1_X7_prepare pe mn K nw cA 24)) from rfl
        exact e_v (u := [(z0, .inr (7, [.ref zr, .int (nI pe), .int de, .int ((evy (nI pe)) &&& ((mn nw) ^^^ (-1 : Int32))), .int (mu nw), .ref zc, .ref ze1, .ref ze2, .ref ze3, .ref ze4, .ref ze5, .ref ze6, .int zi0, .int zi1, .int zi2, .int zi3, .int zi4])), (zc, .inl (g.2.1 1, 175, .inl (L1_X7_prepare pe mn K nw cA 24))), (v, .inr (10, [.int (nI pe), .int lc, .int de, .ref v3, .ref v4, .ref v5, .ref v6, .ref v7, .ref v8, .ref v9, .ref v10, .ref v11, .ref v12, .ref v13, .int gl, .ref v15])), (v4, .inl (g.2.1 1, 4, .inl mu)), (v5, .inl (g.2.1 1, 4, .inl mn)), (v10, .inl (g.2.1 1, 175, .inl K))]) X hQ hr (hW) [0, 1, 5, 2, 3, 4] rfl rfl (by rw [hF]) ⟨Nat.le_of_ble_eq_true rfl, Nat.le_of_ble_eq_true rfl⟩ dX7_prepare_119
      · have h6 : ¬ (24 < (j1 + 1)) := fun q => c4 ((nI_ltI (a := 24) (b := (j1 + 1)) (by omega) (by omega)).mpr q)
        refine lv_iconst (v := 0) (pc := 51) hx hb dX7_prepare_51 (by decide) ?_
        refine lv_istore (lv' := [(4, .int 0), (3, .int (nI (j1 + 1))), (0, .ref z0), (1, .ref v), (2, .int (nI nw))]) (pc := 52) hx hb dX7_prepare_52 hl (by decide) rfl (fun ls hl => ?_)
        have loop2 : ∀ (fu2 : Nat) (j2 : Nat) (fzc_2 : Nat → Int32), (pe < fu2 + j2) → (j2 ≤ pe) → (fzc_2 = L2_X7_prepare pe mn K nw j1 fzc_1 j2) → ∀ (H : Heap) (locs : List Loc) (ls : Array Slot), WD g A s H locs [(z0, .inr (7, [.ref zr, .int (nI pe), .int de, .int ((evy (nI pe)) &&& ((mn nw) ^^^ (-1 : Int32))), .int (mu nw), .ref zc, .ref ze1, .ref ze2, .ref ze3, .ref ze4, .ref ze5, .ref ze6, .int zi0, .int zi1, .int zi2, .int zi3, .int zi4])), (zc, .inl (g.2.1 1, 175, .inl fzc_2)), (v4, .inl (g.2.1 1, 4, .inl mu)), (v5, .inl (g.2.1 1, 4, .inl mn)), (v10, .inl (g.2.1 1, 175, .inl K)), (v, .inr (10, [.int (nI pe), .int lc, .int de, .ref v3, .ref v4, .ref v5, .ref v6, .ref v7, .ref v8, .ref v9, .ref v10, .ref v11, .ref v12, .ref v13, .int gl, .ref v15]))] → lv_has ls 6 [(4, .int (nI j2)), (3, .int (nI (j1 + 1))), (0, .ref z0), (1, .ref v), (2, .int (nI nw))] → W p l e (RM 1 0 0) s m args below meth c H locs 0 0 Q (F0 m 54 ls []) := by
          intro fu2
          induction fu2 with
          | zero =>
            intro j2 fzc_2 hm2 hj2 hst2
            exact absurd hm2 (by omega)
          | succ fu2 ih2 =>
            intro j2 fzc_2 hm2 hj2 hst2 H locs ls hW hl
            refine lv_iload (pc := 54) hx hb dX7_prepare_54 (lv_at hl 0 rfl) ?_
            refine lv_aload_n (pc := 56) hx hb dX7_prepare_56 rfl (lv_at hl 2 rfl) ?_
            refine r_get X hW 0 ciX7 1 rfl (by decide) m_114 rfl rfl dX7_prepare_57 ?_
            refine lv_icmp_ge (tgt := 113) (pc := 60) hx hb dX7_prepare_60 rfl (fun c7 => ?_) (fun c7 => ?_)
            · have h8 : pe ≤ j2 := (nI_leI (a := pe) (b := j2) (by omega) (by omega)).mp c7
              have hN2 : j2 = pe := by omega
              rw [hN2] at hst2
              subst hst2
              have hW : WD g A s _ _ [(z0, .inr (7, [.ref zr, .int (nI pe), .int de, .int ((evy (nI pe)) &&& ((mn nw) ^^^ (-1 : Int32))), .int (mu nw), .ref zc, .ref ze1, .ref ze2, .ref ze3, .ref ze4, .ref ze5, .ref ze6, .int zi0, .int zi1, .int zi2, .int zi3, .int zi4])), (zc, .inl (g.2.1 1, 175, .inl (L2_X7_prepare pe mn K nw j1 fzc_1 pe))), (v4, .inl (g.2.1 1, 4, .inl mu)), (v5, .inl (g.2.1 1, 4, .inl mn)), (v10, .inl (g.2.1 1, 175, .inl K)), (v, .inr (10, [.int (nI pe), .int lc, .int de, .ref v3, .ref v4, .ref v5, .ref v6, .ref v7, .ref v8, .ref v9, .ref v10, .ref v11, .ref v12, .ref v13, .int gl, .ref v15]))] := hW
              refine lv_iinc (v := nI (j1 + 1 + 1)) (lv' := [(3, .int (nI (j1 + 1 + 1))), (4, .int (nI j2)), (0, .ref z0), (1, .ref v), (2, .int (nI nw))]) (pc := 113) hx hb dX7_prepare_113 hl (k := 1) rfl (nI_add (j1 + 1) 1) (by decide) rfl (fun ls hl => ?_)
              refine lv_goto (tgt := 45) (pc := 116) hx hb dX7_prepare_116 rfl ?_
              exact ih1 (j1 + 1) (L2_X7_prepare pe mn K nw j1 fzc_1 pe) (by omega) (by omega) (by rw [L1_X7_prepare, ← hst1]; exact (show L1_X7_prepares pe mn K nw j1 fzc_1 = (L2_X7_prepare pe mn K nw j1 fzc_1 pe) from rfl).symm) _ _ _ hW (lv_sub hl [0, 2, 3, 4] rfl)
            · have h9 : ¬ (pe ≤ j2) := fun q => c7 ((nI_leI (a := pe) (b := j2) (by omega) (by omega)).mpr q)
              refine lv_aload_n (pc := 63) hx hb dX7_prepare_63 rfl (lv_at hl 2 rfl) ?_
              refine r_get X hW 0 ciX7 3 rfl (by decide) m_116 rfl rfl dX7_prepare_64 ?_
              refine lv_iload (pc := 67) hx hb dX7_prepare_67 (lv_at hl 0 rfl) ?_
              refine c_SNi (pc := 69) (As := [.int ((evy (nI pe)) &&& ((mn nw) ^^^ (-1 : Int32))), .int (nI j2)]) (rest := []) (wr := [(z0, .inr (7, [.ref zr, .int (nI pe), .int de, .int ((evy (nI pe)) &&& ((mn nw) ^^^ (-1 : Int32))), .int (mu nw), .ref zc, .ref ze1, .ref ze2, .ref ze3, .ref ze4, .ref ze5, .ref ze6, .int zi0, .int zi1, .int zi2, .int zi3, .int zi4])), (zc, .inl (g.2.1 1, 175, .inl fzc_2)), (v4, .inl (g.2.1 1, 4, .inl mu)), (v5, .inl (g.2.1 1, 4, .inl mn)), (v10, .inl (g.2.1 1, 175, .inl K)), (v, .inr (10, [.int (nI pe), .int lc, .int de, .ref v3, .ref v4, .ref v5, .ref v6, .ref v7, .ref v8, .ref v9, .ref v10, .ref v11, .ref v12, .ref v13, .int gl, .ref v15]))]) X hW (C_X11_has l g ((evy (nI pe)) &&& ((mn nw) ^^^ (-1 : Int32))) (nI j2)) vX7_77 [] [0, 1, 2, 3, 4, 5] rfl rfl rfl rfl rfl rfl hl.1 rfl (Nat.le_of_ble_eq_true rfl) ⟨Nat.le_of_ble_eq_true rfl, Nat.le_of_ble_eq_true rfl⟩ ⟨Nat.le_of_ble_eq_true rfl, Nat.le_of_ble_eq_true rfl⟩ dX7_prepare_69 (fun r10 u9 H locs hq hW => ?_)
              obtain ⟨rfl, rfl⟩ := hq
              have hW : WD g A s _ _ [(z0, .inr (7, [.ref zr, .int (nI pe), .int de, .int ((evy (nI pe)) &&& ((mn nw) ^^^ (-1 : Int32))), .int (mu nw), .ref zc, .ref ze1, .ref ze2, .ref ze3, .ref ze4, .ref ze5, .ref ze6, .int zi0, .int zi1, .int zi2, .int zi3, .int zi4])), (zc, .inl (g.2.1 1, 175, .inl fzc_2)), (v4, .inl (g.2.1 1, 4, .inl mu)), (v5, .inl (g.2.1 1, 4, .inl mn)), (v10, .inl (g.2.1 1, 175, .inl K)), (v, .inr (10, [.int (nI pe), .int lc, .int de, .ref v3, .ref v4, .ref v5, .ref v6, .ref v7, .ref v8, .ref v9, .ref v10, .ref v11, .ref v12, .ref v13, .int gl, .ref v15]))] := hW
              refine lv_if_eq (tgt := 90) (pc := 72) hx hb dX7_prepare_72 rfl (fun c11 => ?_) (fun c11 => ?_)
              · refine lv_iconst (v := 0) (pc := 90) hx hb dX7_prepare_90 (by decide) ?_
                refine lv_istore (lv' := [(5, .int 0), (4, .int (nI j2)), (3, .int (nI (j1 + 1))), (0, .ref z0), (1, .ref v), (2, .int (nI nw))]) (pc := 91) hx hb dX7_prepare_91 hl (by decide) rfl (fun ls hl => ?_)
                refine lv_aload_n (pc := 93) hx hb dX7_prepare_93 rfl (lv_at hl 3 rfl) ?_
                refine r_get X hW 0 ciX7 5 rfl (by decide) m_118 rfl rfl dX7_prepare_94 ?_
                refine lv_iload_n (pc := 97) hx hb dX7_prepare_97 rfl (lv_at hl 2 rfl) ?_
                refine lv_bipush (v := 7) (pc := 98) hx hb dX7_prepare_98 (by decide) ?_
                refine lv_imul (pc := 100) hx hb dX7_prepare_100 ?_
                refine lv_topi (fun v13 ev13 => ?_)
                obtain rfl : v13 = nI ((j1 + 1) * 7) := ev13.trans (pk_mul (j1 + 1) 7)
                refine lv_iload (pc := 101) hx hb dX7_prepare_101 (lv_at hl 1 rfl) ?_
                refine lv_iadd (pc := 103) hx hb dX7_prepare_103 ?_
                refine lv_topi (fun v14 ev14 => ?_)
                obtain rfl : v14 = nI ((j1 + 1) * 7 + j2) := ev14.trans (nI_add _ _)
                refine lv_iload (pc := 104) hx hb dX7_prepare_104 (lv_at hl 0 rfl) ?_
                refine r_iast (ws' := [(z0, .inr (7, [.ref zr, .int (nI pe), .int de, .int ((evy (nI pe)) &&& ((mn nw) ^^^ (-1 : Int32))), .int (mu nw), .ref zc, .ref ze1, .ref ze2, .ref ze3, .ref ze4, .ref ze5, .ref ze6, .int zi0, .int zi1, .int zi2, .int zi3, .int zi4])), (zc, .inl (g.2.1 1, 175, .inl (upd fzc_2 ((j1 + 1) * 7 + j2) (0 : Int32)))), (v4, .inl (g.2.1 1, 4, .inl mu)), (v5, .inl (g.2.1 1, 4, .inl mn)), (v10, .inl (g.2.1 1, 175, .inl K)), (v, .inr (10, [.int (nI pe), .int lc, .int de, .ref v3, .ref v4, .ref v5, .ref v6, .ref v7, .ref v8, .ref v9, .ref v10, .ref v11, .ref v12, .ref v13, .int gl, .ref v15]))]) X hW 1 rfl (vp_in_nI (by omega) (by decide)) (f' := (upd fzc_2 ((j1 + 1) * 7 + j2) (0 : Int32))) (by rw [nI_clamp (by omega)]) rfl dX7_prepare_106 (fun H locs hW => ?_)
                refine lv_iinc (v := nI (j2 + 1)) (lv' := [(4, .int (nI (j2 + 1))), (5, .int 0), (3, .int (nI (j1 + 1))), (0, .ref z0), (1, .ref v), (2, .int (nI nw))]) (pc := 107) hx hb dX7_prepare_107 hl (k := 1) rfl (nI_add j2 1) (by decide) rfl (fun ls hl => ?_)
                refine lv_goto (tgt := 54) (pc := 110) hx hb dX7_prepare_110 rfl ?_
                exact ih2 (j2 + 1) (upd fzc_2 ((j1 + 1) * 7 + j2) (0 : Int32)) (by omega) (by omega) (by rw [L2_X7_prepare, ← hst2]; exact (show L2_X7_prepares pe mn K nw j1 j2 fzc_2 = (upd fzc_2 ((j1 + 1) * 7 + j2) (0 : Int32)) from by rw [L2_X7_prepares, if_pos c11]).symm) _ _ _ hW (lv_sub hl [0, 2, 3, 4, 5] rfl)
              · refine lv_aload_n (pc := 75) hx hb dX7_prepare_75 rfl (lv_at hl 3 rfl) ?_
                refine lv_iload (pc := 76) hx hb dX7_prepare_76 (lv_at hl 0 rfl) ?_
                refine lv_iload_n (pc := 78) hx hb dX7_prepare_78 rfl (lv_at hl 1 rfl) ?_
                refine c_Vi (pc := 79) (As := [.int (nI j2), .int (nI (j1 + 1))]) (rest := []) (wr := [(z0, .inr (7, [.ref zr, .int (nI pe), .int de, .int ((evy (nI pe)) &&& ((mn nw) ^^^ (-1 : Int32))), .int (mu nw), .ref zc, .ref ze1, .ref ze2, .ref ze3, .ref ze4, .ref ze5, .ref ze6, .int zi0, .int zi1, .int zi2, .int zi3, .int zi4])), (zc, .inl (g.2.1 1, 175, .inl fzc_2)), (v4, .inl (g.2.1 1, 4, .inl mu)), (v5, .inl (g.2.1 1, 4, .inl mn))]) X hW 5 ciX10 rfl (K_X10_callable l g v v3 v4 v5 v6 v7 v8 v9 v10 v11 v12 v13 v15 (nI pe) lc de gl K j2 (j1 + 1) (by omega) (by omega)) vX7_81 [5, 4] [0, 1, 2, 3] rfl rfl rfl rfl rfl rfl hl.1 rfl (Nat.le_of_ble_eq_true rfl) ⟨Nat.le_of_ble_eq_true rfl, Nat.le_of_ble_eq_true rfl⟩ ⟨Nat.le_of_ble_eq_true rfl, Nat.le_of_ble_eq_true rfl⟩ dX7_prepare_79 (fun r16 u9 H locs hq hW => ?_)
                obtain ⟨rfl, rfl⟩ := hq
                have hW : WD g A s _ _ [(z0, .inr (7, [.ref zr, .int (nI pe), .int de, .int ((evy (nI pe)) &&& ((mn nw) ^^^ (-1 : Int32))), .int (mu nw), .ref zc, .ref ze1, .ref ze2, .ref ze3, .ref ze4, .ref ze5, .ref ze6, .int zi0, .int zi1, .int zi2, .int zi3, .int zi4])), (zc, .inl (g.2.1 1, 175, .inl fzc_2)), (v4, .inl (g.2.1 1, 4, .inl mu)), (v5, .inl (g.2.1 1, 4, .inl mn)), (v, .inr (10, [.int (nI pe), .int lc, .int de, .ref v3, .ref v4, .ref v5, .ref v6, .ref v7, .ref v8, .ref v9, .ref v10, .ref v11, .ref v12, .ref v13, .int gl, .ref v15])), (v10, .inl (g.2.1 1, 175, .inl K))] := hW
                refine lv_aload_n (pc := 82) hx hb dX7_prepare_82 rfl (lv_at hl 2 rfl) ?_
                refine r_get X hW 0 ciX7 3 rfl (by decide) m_116 rfl rfl dX7_prepare_83 ?_
                refine lv_iand (pc := 86) hx hb dX7_prepare_86 ?_
                refine lv_goto (tgt := 91) (pc := 87) hx hb dX7_prepare_87 rfl ?_
                refine lv_istore (lv' := [(5, .int ((F_X10_callable K j2 (j1 + 1)) &&& ((evy (nI pe)) &&& ((mn nw) ^^^ (-1 : Int32))))), (4, .int (nI j2)), (3, .int (nI (j1 + 1))), (0, .ref z0), (1, .ref v), (2, .int (nI nw))]) (pc := 91) hx hb dX7_prepare_91 hl (by decide) rfl (fun ls hl => ?_)
                refine lv_aload_n (pc := 93) hx hb dX7_prepare_93 rfl (lv_at hl 3 rfl) ?_
                refine r_get X hW 0 ciX7 5 rfl (by decide) m_118 rfl rfl dX7_prepare_94 ?_
                refine lv_iload_n (pc := 97) hx hb dX7_prepare_97 rfl (lv_at hl 2 rfl) ?_
                refine lv_bipush (v := 7) (pc := 98) hx hb dX7_prepare_98 (by decide) ?_
                refine lv_imul (pc := 100) hx hb dX7_prepare_100 ?_
                refine lv_topi (fun v17 ev17 => ?_)
                obtain rfl : v17 = nI ((j1 + 1) * 7) := ev17.trans (pk_mul (j1 + 1) 7)
                refine lv_iload (pc := 101) hx hb dX7_prepare_101 (lv_at hl 1 rfl) ?_
                refine lv_iadd (pc := 103) hx hb dX7_prepare_103 ?_
                refine lv_topi (fun v18 ev18 => ?_)
                obtain rfl : v18 = nI ((j1 + 1) * 7 + j2) := ev18.trans (nI_add _ _)
                refine lv_iload (pc := 104) hx hb dX7_prepare_104 (lv_at hl 0 rfl) ?_
                refine r_iast (ws' := [(z0, .inr (7, [.ref zr, .int (nI pe), .int de, .int ((evy (nI pe)) &&& ((mn nw) ^^^ (-1 : Int32))), .int (mu nw), .ref zc, .ref ze1, .ref ze2, .ref ze3, .ref ze4, .ref ze5, .ref ze6, .int zi0, .int zi1, .int zi2, .int zi3, .int zi4])), (zc, .inl (g.2.1 1, 175, .inl (upd fzc_2 ((j1 + 1) * 7 + j2) ((F_X10_callable K j2 (j1 + 1)) &&& ((evy (nI pe)) &&& ((mn nw) ^^^ (-1 : Int32))))))), (v4, .inl (g.2.1 1, 4, .inl mu)), (v5, .inl (g.2.1 1, 4, .inl mn)), (v, .inr (10, [.int (nI pe), .int lc, .int de, .ref v3, .ref v4, .ref v5, .ref v6, .ref v7, .ref v8, .ref v9, .ref v10, .ref v11, .ref v12, .ref v13, .int gl, .ref v15])), (v10, .inl (g.2.1 1, 175, .inl K))]) X hW 1 rfl (vp_in_nI (by omega) (by decide)) (f' := (upd fzc_2 ((j1 + 1) * 7 + j2) ((F_X10_callable K j2 (j1 + 1)) &&& ((evy (nI pe)) &&& ((mn nw) ^^^ (-1 : Int32)))))) (by rw [nI_clamp (by omega)]) rfl dX7_prepare_106 (fun H locs hW => ?_)
                refine lv_iinc (v := nI (j2 + 1)) (lv' := [(4, .int (nI (j2 + 1))), (5, .int ((F_X10_callable K j2 (j1 + 1)) &&& ((evy (nI pe)) &&& ((mn nw) ^^^ (-1 : Int32))))), (3, .int (nI (j1 + 1))), (0, .ref z0), (1, .ref v), (2, .int (nI nw))]) (pc := 107) hx hb dX7_prepare_107 hl (k := 1) rfl (nI_add j2 1) (by decide) rfl (fun ls hl => ?_)
                refine lv_goto (tgt := 54) (pc := 110) hx hb dX7_prepare_110 rfl ?_
                have hW : WD g A s _ _ [(z0, .inr (7, [.ref zr, .int (nI pe), .int de, .int ((evy (nI pe)) &&& ((mn nw) ^^^ (-1 : Int32))), .int (mu nw), .ref zc, .ref ze1, .ref ze2, .ref ze3, .ref ze4, .ref ze5, .ref ze6, .int zi0, .int zi1, .int zi2, .int zi3, .int zi4])), (zc, .inl (g.2.1 1, 175, .inl (upd fzc_2 ((j1 + 1) * 7 + j2) ((F_X10_callable K j2 (j1 + 1)) &&& ((evy (nI pe)) &&& ((mn nw) ^^^ (-1 : Int32))))))), (v4, .inl (g.2.1 1, 4, .inl mu)), (v5, .inl (g.2.1 1, 4, .inl mn)), (v10, .inl (g.2.1 1, 175, .inl K)), (v, .inr (10, [.int (nI pe), .int lc, .int de, .ref v3, .ref v4, .ref v5, .ref v6, .ref v7, .ref v8, .ref v9, .ref v10, .ref v11, .ref v12, .ref v13, .int gl, .ref v15]))] := hW.pick [0, 1, 2, 3, 5, 4] rfl rfl
                exact ih2 (j2 + 1) (upd fzc_2 ((j1 + 1) * 7 + j2) ((F_X10_callable K j2 (j1 + 1)) &&& ((evy (nI pe)) &&& ((mn nw) ^^^ (-1 : Int32))))) (by omega) (by omega) (by rw [L2_X7_prepare, ← hst2]; exact (show L2_X7_prepares pe mn K nw j1 j2 fzc_2 = (upd fzc_2 ((j1 + 1) * 7 + j2) ((F_X10_callable K j2 (j1 + 1)) &&& ((evy (nI pe)) &&& ((mn nw) ^^^ (-1 : Int32))))) from by rw [L2_X7_prepares, if_neg c11]).symm) _ _ _ hW (lv_sub hl [0, 2, 3, 4, 5] rfl)
        exact loop2 (pe + 1) 0 fzc_1 (by omega) (by omega) rfl _ _ _ hW (lv_sub hl [0, 1, 2, 3, 4] rfl)
  exact loop1 (24 + 1) 0 cA (by omega) (by omega) rfl _ _ _ hW (lv_sub hl [0, 1, 2, 3] rfl)

def L1_X7_comeToAfters (cA : Nat → Int32) (co : Int32) (ho : Nat) (j1 : Nat) (x3_1 : Int32) : Int32 := if hasv co (nI j1) = 0 then (x3_1) else (x3_1 ||| (cA (ho * 7 + j1)))
def L1_X7_comeToAfter (cA : Nat → Int32) (co : Int32) (ho : Nat) (i0_ : Int32) : Nat → Int32
  | 0 => (i0_)
  | k_ + 1 => L1_X7_comeToAfters cA co ho k_ (L1_X7_comeToAfter cA co ho i0_ k_)
def F_X7_comeToAfter (zp : Nat) (cA : Nat → Int32) (co : Int32) (ho : Nat) : Int32 := (L1_X7_comeToAfter cA co ho co zp)
set_option maxHeartbeats 4000000 in
set_option maxRecDepth 100000 in
theorem K_X7_comeToAfter (l : Launch) (g : GG) (z0 : Nat) (zr : Nat) (zc : Nat) (ze1 : Nat) (ze2 : Nat) (ze3 : Nat) (ze4 : Nat) (ze5 : Nat) (ze6 : Nat) (zp : Nat) (zd : Int32) (zt : Int32) (zm : Int32) (zi0 : Int32) (zi1 : Int32) (zi2 : Int32) (zi3 : Int32) (zi4 : Int32) (cA : Nat → Int32) (co : Int32) (ho : Nat) (hzp : zp ≤ 7) (hho : ho ≤ 24) : MetI l g yX7_comeToAfter cX7_comeToAfter 5 (some .int) 1 0 0 [.ref z0, .int co, .int (nI ho)] [(z0, .inr (7, [.ref zr, .int (nI zp), .int zd, .int zt, .int zm, .ref zc, .ref ze1, .ref ze2, .ref ze3, .ref ze4, .ref ze5, .ref ze6, .int zi0, .int zi1, .int zi2, .int zi3, .int zi4])), (zc, .inl (g.2.1 1, 175, .inl cA))] (fun r u => r = (F_X7_comeToAfter zp cA co ho) ∧ u = [(z0, .inr (7, [.ref zr, .int (nI zp), .int zd, .int zt, .int zm, .ref zc, .ref ze1, .ref ze2, .ref ze3, .ref ze4, .ref ze5, .ref ze6, .int zi0, .int zi1, .int zi2, .int zi3, .int zi4])), (zc, .inl (g.2.1 1, 175, .inl cA))]) := by
  refine MetI.of (own := RX7) rfl (by decide) (Nat.le_of_ble_eq_true rfl) ?_
  intro p e s m below meth c A ls args Q hQ X hr hin hW hl
  have hx := X.1
  have hb := X.2.1
  have hl : lv_has ls 5 [(0, .ref z0), (1, .int co), (2, .int (nI ho))] := hl
  refine lv_iload_n (pc := 0) hx hb dX7_comeToAfter_0 rfl (lv_at hl 1 rfl) ?_
  refine lv_istore_n (lv' := [(3, .int co), (0, .ref z0), (1, .int co), (2, .int (nI ho))]) (pc := 1) hx hb dX7_comeToAfter_1 rfl hl (by decide) rfl (fun ls hl => ?_)
  refine lv_iconst (v := 0) (pc := 2) hx hb dX7_comeToAfter_2 (by decide) ?_
  refine lv_istore (lv' := [(4, .int 0), (3, .int co), (0, .ref z0), (1, .int co), (2, .int (nI ho))]) (pc := 3) hx hb dX7_comeToAfter_3 hl (by decide) rfl (fun ls hl => ?_)
  have loop1 : ∀ (fu1 : Nat) (j1 : Nat) (x3_1 : Int32), (zp < fu1 + j1) → (j1 ≤ zp) → (x3_1 = L1_X7_comeToAfter cA co ho co j1) → ∀ (H : Heap) (locs : List Loc) (ls : Array Slot), WD g A s H locs [(z0, .inr (7, [.ref zr, .int (nI zp), .int zd, .int zt, .int zm, .ref zc, .ref ze1, .ref ze2, .ref ze3, .ref ze4, .ref ze5, .ref ze6, .int zi0, .int zi1, .int zi2, .int zi3, .int zi4])), (zc, .inl (g.2.1 1, 175, .inl cA))] → lv_has ls 5 [(4, .int (nI j1)), (3, .int x3_1), (0, .ref z0), (1, .int co), (2, .int (nI ho))] → W p l e (RM 1 0 0) s m args below meth c H locs 0 0 Q (F0 m 5 ls []) := by
    intro fu1
    induction fu1 with
    | zero =>
      intro j1 x3_1 hm1 hj1 hst1
      exact absurd hm1 (by omega)
    | succ fu1 ih1 =>
      intro j1 x3_1 hm1 hj1 hst1 H locs ls hW hl
      refine lv_iload (pc := 5) hx hb dX7_comeToAfter_5 (lv_at hl 0 rfl) ?_
      refine lv_aload_n (pc := 7) hx hb dX7_comeToAfter_7 rfl (lv_at hl 2 rfl) ?_
      refine r_get X hW 0 ciX7 1 rfl (by decide) m_114 rfl rfl dX7_comeToAfter_8 ?_
      refine lv_icmp_ge (tgt := 44) (pc := 11) hx hb dX7_comeToAfter_11 rfl (fun c1 => ?_) (fun c1 => ?_)
      · have h2 : zp ≤ j1 := (nI_leI (a := zp) (b := j1) (by omega) (by omega)).mp c1
        have hN1 : j1 = zp := by omega
        rw [hN1] at hst1
        subst hst1
        have hW : WD g A s _ _ [(z0, .inr (7, [.ref zr, .int (nI zp), .int zd, .int zt, .int zm, .ref zc, .ref ze1, .ref ze2, .ref ze3, .ref ze4, .ref ze5, .ref ze6, .int zi0, .int zi1, .int zi2, .int zi3, .int zi4])), (zc, .inl (g.2.1 1, 175, .inl cA))] := hW
        refine lv_iload_n (pc := 44) hx hb dX7_comeToAfter_44 rfl (lv_at hl 1 rfl) ?_
        have hF : F_X7_comeToAfter zp cA co ho = (L1_X7_comeToAfter cA co ho co zp) := show F_X7_comeToAfter zp cA co ho = (L1_X7_comeToAfter cA co ho co zp) from rfl
        exact e_i (u := [(z0, .inr (7, [.ref zr, .int (nI zp), .int zd, .int zt, .int zm, .ref zc, .ref ze1, .ref ze2, .ref ze3, .ref ze4, .ref ze5, .ref ze6, .int zi0, .int zi1, .int zi2, .int zi3, .int zi4])), (zc, .inl (g.2.1 1, 175, .inl cA))]) X hQ hr (hW) [0, 1] rfl rfl (⟨hF.symm, rfl⟩) ⟨Nat.le_of_ble_eq_true rfl, Nat.le_of_ble_eq_true rfl⟩ dX7_comeToAfter_45
      · have h3 : ¬ (zp ≤ j1) := fun q => c1 ((nI_leI (a := zp) (b := j1) (by omega) (by omega)).mpr q)
        refine lv_iload_n (pc := 14) hx hb dX7_comeToAfter_14 rfl (lv_at hl 3 rfl) ?_
        refine lv_iload (pc := 15) hx hb dX7_comeToAfter_15 (lv_at hl 0 rfl) ?_
        refine c_SNi (pc := 17) (As := [.int co, .int (nI j1)]) (rest := []) (wr := [(z0, .inr (7, [.ref zr, .int (nI zp), .int zd, .int zt, .int zm, .ref zc, .ref ze1, .ref ze2, .ref ze3, .ref ze4, .ref ze5, .ref ze6, .int zi0, .int zi1, .int zi2, .int zi3, .int zi4])), (zc, .inl (g.2.1 1, 175, .inl cA))]) X hW (C_X11_has l g co (nI j1)) vX7_77 [] [0, 1] rfl rfl rfl rfl rfl rfl hl.1 rfl (Nat.le_of_ble_eq_true rfl) ⟨Nat.le_of_ble_eq_true rfl, Nat.le_of_ble_eq_true rfl⟩ ⟨Nat.le_of_ble_eq_true rfl, Nat.le_of_ble_eq_true rfl⟩ dX7_comeToAfter_17 (fun r4 u9 H locs hq hW => ?_)
        obtain ⟨rfl, rfl⟩ := hq
        have hW : WD g A s _ _ [(z0, .inr (7, [.ref zr, .int (nI zp), .int zd, .int zt, .int zm, .ref zc, .ref ze1, .ref ze2, .ref ze3, .ref ze4, .ref ze5, .ref ze6, .int zi0, .int zi1, .int zi2, .int zi3, .int zi4])), (zc, .inl (g.2.1 1, 175, .inl cA))] := hW
        refine lv_if_eq (tgt := 38) (pc := 20) hx hb dX7_comeToAfter_20 rfl (fun c5 => ?_) (fun c5 => ?_)
        · refine lv_iinc (v := nI (j1 + 1)) (lv' := [(4, .int (nI (j1 + 1))), (3, .int x3_1), (0, .ref z0), (1, .int co), (2, .int (nI ho))]) (pc := 38) hx hb dX7_comeToAfter_38 hl (k := 0) rfl (nI_add j1 1) (by decide) rfl (fun ls hl => ?_)
          refine lv_goto (tgt := 5) (pc := 41) hx hb dX7_comeToAfter_41 rfl ?_
          exact ih1 (j1 + 1) x3_1 (by omega) (by omega) (by rw [L1_X7_comeToAfter, ← hst1]; exact (show L1_X7_comeToAfters cA co ho j1 x3_1 = x3_1 from by rw [L1_X7_comeToAfters, if_pos c5]).symm) _ _ _ hW (lv_sub hl [0, 1, 2, 3, 4] rfl)
        · refine lv_iload_n (pc := 23) hx hb dX7_comeToAfter_23 rfl (lv_at hl 1 rfl) ?_
          refine lv_aload_n (pc := 24) hx hb dX7_comeToAfter_24 rfl (lv_at hl 2 rfl) ?_
          refine r_get X hW 0 ciX7 5 rfl (by decide) m_118 rfl rfl dX7_comeToAfter_25 ?_
          refine lv_iload_n (pc := 28) hx hb dX7_comeToAfter_28 rfl (lv_at hl 4 rfl) ?_
          refine lv_bipush (v := 7) (pc := 29) hx hb dX7_comeToAfter_29 (by decide) ?_
          refine lv_imul (pc := 31) hx hb dX7_comeToAfter_31 ?_
          refine lv_topi (fun v8 ev8 => ?_)
          obtain rfl : v8 = nI (ho * 7) := ev8.trans (pk_mul ho 7)
          refine lv_iload (pc := 32) hx hb dX7_comeToAfter_32 (lv_at hl 0 rfl) ?_
          refine lv_iadd (pc := 34) hx hb dX7_comeToAfter_34 ?_
          refine lv_topi (fun v9 ev9 => ?_)
          obtain rfl : v9 = nI (ho * 7 + j1) := ev9.trans (nI_add _ _)
          refine r_iald X hW 1 rfl (vp_in_nI (by omega) (by decide)) dX7_comeToAfter_35 ?_
          refine lv_topi (fun v10 ev10 => ?_)
          obtain rfl : v10 = cA (ho * 7 + j1) := ev10.trans (by rw [nI_clamp (by omega)])
          refine lv_ior (pc := 36) hx hb dX7_comeToAfter_36 ?_
          refine lv_istore_n (lv' := [(3, .int (x3_1 ||| (cA (ho * 7 + j1)))), (4, .int (nI j1)), (0, .ref z0), (1, .int co), (2, .int (nI ho))]) (pc := 37) hx hb dX7_comeToAfter_37 rfl hl (by decide) rfl (fun ls hl => ?_)
          refine lv_iinc (v := nI (j1 + 1)) (lv' := [(4, .int (nI (j1 + 1))), (3, .int (x3_1 ||| (cA (ho * 7 + j1)))), (0, .ref z0), (1, .int co), (2, .int (nI ho))]) (pc := 38) hx hb dX7_comeToAfter_38 hl (k := 1) rfl (nI_add j1 1) (by decide) rfl (fun ls hl => ?_)
          refine lv_goto (tgt := 5) (pc := 41) hx hb dX7_comeToAfter_41 rfl ?_
          exact ih1 (j1 + 1) (x3_1 ||| (cA (ho * 7 + j1))) (by omega) (by omega) (by rw [L1_X7_comeToAfter, ← hst1]; exact (show L1_X7_comeToAfters cA co ho j1 x3_1 = x3_1 ||| (cA (ho * 7 + j1)) from by rw [L1_X7_comeToAfters, if_neg c5]).symm) _ _ _ hW (lv_sub hl [0, 1, 2, 3, 4] rfl)
  exact loop1 (zp + 1) 0 co (by omega) (by omega) rfl _ _ _ hW (lv_sub hl [0, 1, 2, 3, 4] rfl)

def F_J6_bitCount (x : Int32) : Int32 := (((((((x - (((x.toUInt32 >>> ((1 : Int32).toUInt32 &&& Int32.toUInt32 31)).toInt32) &&& (1431655765 : Int32))) &&& (858993459 : Int32)) + ((((x - (((x.toUInt32 >>> ((1 : Int32).toUInt32 &&& Int32.toUInt32 31)).toInt32) &&& (1431655765 : Int32))).toUInt32 >>> ((2 : Int32).toUInt32 &&& Int32.toUInt32 31)).toInt32) &&& (858993459 : Int32))) + (((((x - (((x.toUInt32 >>> ((1 : Int32).toUInt32 &&& Int32.toUInt32 31)).toInt32) &&& (1431655765 : Int32))) &&& (858993459 : Int32)) + ((((x - (((x.toUInt32 >>> ((1 : Int32).toUInt32 &&& Int32.toUInt32 31)).toInt32) &&& (1431655765 : Int32))).toUInt32 >>> ((2 : Int32).toUInt32 &&& Int32.toUInt32 31)).toInt32) &&& (858993459 : Int32))).toUInt32 >>> ((4 : Int32).toUInt32 &&& Int32.toUInt32 31)).toInt32)) &&& (252645135 : Int32)) + (((((((x - (((x.toUInt32 >>> ((1 : Int32).toUInt32 &&& Int32.toUInt32 31)).toInt32) &&& (1431655765 : Int32))) &&& (858993459 : Int32)) + ((((x - (((x.toUInt32 >>> ((1 : Int32).toUInt32 &&& Int32.toUInt32 31)).toInt32) &&& (1431655765 : Int32))).toUInt32 >>> ((2 : Int32).toUInt32 &&& Int32.toUInt32 31)).toInt32) &&& (858993459 : Int32))) + (((((x - (((x.toUInt32 >>> ((1 : Int32).toUInt32 &&& Int32.toUInt32 31)).toInt32) &&& (1431655765 : Int32))) &&& (858993459 : Int32)) + ((((x - (((x.toUInt32 >>> ((1 : Int32).toUInt32 &&& Int32.toUInt32 31)).toInt32) &&& (1431655765 : Int32))).toUInt32 >>> ((2 : Int32).toUInt32 &&& Int32.toUInt32 31)).toInt32) &&& (858993459 : Int32))).toUInt32 >>> ((4 : Int32).toUInt32 &&& Int32.toUInt32 31)).toInt32)) &&& (252645135 : Int32)).toUInt32 >>> ((8 : Int32).toUInt32 &&& Int32.toUInt32 31)).toInt32)) + ((((((((x - (((x.toUInt32 >>> ((1 : Int32).toUInt32 &&& Int32.toUInt32 31)).toInt32) &&& (1431655765 : Int32))) &&& (858993459 : Int32)) + ((((x - (((x.toUInt32 >>> ((1 : Int32).toUInt32 &&& Int32.toUInt32 31)).toInt32) &&& (1431655765 : Int32))).toUInt32 >>> ((2 : Int32).toUInt32 &&& Int32.toUInt32 31)).toInt32) &&& (858993459 : Int32))) + (((((x - (((x.toUInt32 >>> ((1 : Int32).toUInt32 &&& Int32.toUInt32 31)).toInt32) &&& (1431655765 : Int32))) &&& (858993459 : Int32)) + ((((x - (((x.toUInt32 >>> ((1 : Int32).toUInt32 &&& Int32.toUInt32 31)).toInt32) &&& (1431655765 : Int32))).toUInt32 >>> ((2 : Int32).toUInt32 &&& Int32.toUInt32 31)).toInt32) &&& (858993459 : Int32))).toUInt32 >>> ((4 : Int32).toUInt32 &&& Int32.toUInt32 31)).toInt32)) &&& (252645135 : Int32)) + (((((((x - (((x.toUInt32 >>> ((1 : Int32).toUInt32 &&& Int32.toUInt32 31)).toInt32) &&& (1431655765 : Int32))) &&& (858993459 : Int32)) + ((((x - (((x.toUInt32 >>> ((1 : Int32).toUInt32 &&& Int32.toUInt32 31)).toInt32) &&& (1431655765 : Int32))).toUInt32 >>> ((2 : Int32).toUInt32 &&& Int32.toUInt32 31)).toInt32) &&& (858993459 : Int32))) + (((((x - (((x.toUInt32 >>> ((1 : Int32).toUInt32 &&& Int32.toUInt32 31)).toInt32) &&& (1431655765 : Int32))) &&& (858993459 : Int32)) + ((((x - (((x.toUInt32 >>> ((1 : Int32).toUInt32 &&& Int32.toUInt32 31)).toInt32) &&& (1431655765 : Int32))).toUInt32 >>> ((2 : Int32).toUInt32 &&& Int32.toUInt32 31)).toInt32) &&& (858993459 : Int32))).toUInt32 >>> ((4 : Int32).toUInt32 &&& Int32.toUInt32 31)).toInt32)) &&& (252645135 : Int32)).toUInt32 >>> ((8 : Int32).toUInt32 &&& Int32.toUInt32 31)).toInt32)).toUInt32 >>> ((16 : Int32).toUInt32 &&& Int32.toUInt32 31)).toInt32)) &&& (63 : Int32)
set_option maxHeartbeats 4000000 in
set_option maxRecDepth 100000 in
theorem K_J6_bitCount (l : Launch) (g : GG) (x : Int32)  : MetI l g yJ6_bitCount_0f7a4 cJ6_bitCount_0f7a4 1 (some .int) 0 0 0 [.int x] [] (fun r u => r = (F_J6_bitCount x) ∧ u = []) := by
  refine MetI.of (own := RJ6) rfl (by decide) (Nat.le_of_ble_eq_true rfl) ?_
  intro p e s m below meth c A ls args Q hQ X hr hin hW hl
  have hx := X.1
  have hb := X.2.1
  have hl : lv_has ls 1 [(0, .int x)] := hl
  refine lv_iload_n (pc := 0) hx hb dJ6_bitCount_0f7a4_0 rfl (lv_at hl 0 rfl) ?_
  refine lv_iload_n (pc := 1) hx hb dJ6_bitCount_0f7a4_1 rfl (lv_at hl 0 rfl) ?_
  refine lv_iconst (v := 1) (pc := 2) hx hb dJ6_bitCount_0f7a4_2 (by decide) ?_
  refine lv_iushr (pc := 3) hx hb dJ6_bitCount_0f7a4_3 rfl ?_
  refine lv_ldcw (pc := 4) hx hb X.2.2.2.1 (X.2.2.2.2.1 _ m_812) dJ6_bitCount_0f7a4_4 ?_
  refine lv_iand (pc := 7) hx hb dJ6_bitCount_0f7a4_7 ?_
  refine lv_isub (pc := 8) hx hb dJ6_bitCount_0f7a4_8 ?_
  refine lv_istore_n (lv' := [(0, .int (x - (((x.toUInt32 >>> ((1 : Int32).toUInt32 &&& Int32.toUInt32 31)).toInt32) &&& (1431655765 : Int32))))]) (pc := 9) hx hb dJ6_bitCount_0f7a4_9 rfl hl (by decide) rfl (fun ls hl => ?_)
  refine lv_iload_n (pc := 10) hx hb dJ6_bitCount_0f7a4_10 rfl (lv_at hl 0 rfl) ?_
  refine lv_ldcw (pc := 11) hx hb X.2.2.2.1 (X.2.2.2.2.1 _ m_813) dJ6_bitCount_0f7a4_11 ?_
  refine lv_iand (pc := 14) hx hb dJ6_bitCount_0f7a4_14 ?_
  refine lv_iload_n (pc := 15) hx hb dJ6_bitCount_0f7a4_15 rfl (lv_at hl 0 rfl) ?_
  refine lv_iconst (v := 2) (pc := 16) hx hb dJ6_bitCount_0f7a4_16 (by decide) ?_
  refine lv_iushr (pc := 17) hx hb dJ6_bitCount_0f7a4_17 rfl ?_
  refine lv_ldcw (pc := 18) hx hb X.2.2.2.1 (X.2.2.2.2.1 _ m_813) dJ6_bitCount_0f7a4_18 ?_
  refine lv_iand (pc := 21) hx hb dJ6_bitCount_0f7a4_21 ?_
  refine lv_iadd (pc := 22) hx hb dJ6_bitCount_0f7a4_22 ?_
  refine lv_istore_n (lv' := [(0, .int (((x - (((x.toUInt32 >>> ((1 : Int32).toUInt32 &&& Int32.toUInt32 31)).toInt32) &&& (1431655765 : Int32))) &&& (858993459 : Int32)) + ((((x - (((x.toUInt32 >>> ((1 : Int32).toUInt32 &&& Int32.toUInt32 31)).toInt32) &&& (1431655765 : Int32))).toUInt32 >>> ((2 : Int32).toUInt32 &&& Int32.toUInt32 31)).toInt32) &&& (858993459 : Int32))))]) (pc := 23) hx hb dJ6_bitCount_0f7a4_23 rfl hl (by decide) rfl (fun ls hl => ?_)
  refine lv_iload_n (pc := 24) hx hb dJ6_bitCount_0f7a4_24 rfl (lv_at hl 0 rfl) ?_
  refine lv_iload_n (pc := 25) hx hb dJ6_bitCount_0f7a4_25 rfl (lv_at hl 0 rfl) ?_
  refine lv_iconst (v := 4) (pc := 26) hx hb dJ6_bitCount_0f7a4_26 (by decide) ?_
  refine lv_iushr (pc := 27) hx hb dJ6_bitCount_0f7a4_27 rfl ?_
  refine lv_iadd (pc := 28) hx hb dJ6_bitCount_0f7a4_28 ?_
  refine lv_ldcw (pc := 29) hx hb X.2.2.2.1 (X.2.2.2.2.1 _ m_814) dJ6_bitCount_0f7a4_29 ?_
  refine lv_iand (pc := 32) hx hb dJ6_bitCount_0f7a4_32 ?_
  refine lv_istore_n (lv' := [(0, .int (((((x - (((x.toUInt32 >>> ((1 : Int32).toUInt32 &&& Int32.toUInt32 31)).toInt32) &&& (1431655765 : Int32))) &&& (858993459 : Int32)) + ((((x - (((x.toUInt32 >>> ((1 : Int32).toUInt32 &&& Int32.toUInt32 31)).toInt32) &&& (1431655765 : Int32))).toUInt32 >>> ((2 : Int32).toUInt32 &&& Int32.toUInt32 31)).toInt32) &&& (858993459 : Int32))) + (((((x - (((x.toUInt32 >>> ((1 : Int32).toUInt32 &&& Int32.toUInt32 31)).toInt32) &&& (1431655765 : Int32))) &&& (858993459 : Int32)) + ((((x - (((x.toUInt32 >>> ((1 : Int32).toUInt32 &&& Int32.toUInt32 31)).toInt32) &&& (1431655765 : Int32))).toUInt32 >>> ((2 : Int32).toUInt32 &&& Int32.toUInt32 31)).toInt32) &&& (858993459 : Int32))).toUInt32 >>> ((4 : Int32).toUInt32 &&& Int32.toUInt32 31)).toInt32)) &&& (252645135 : Int32)))]) (pc := 33) hx hb dJ6_bitCount_0f7a4_33 rfl hl (by decide) rfl (fun ls hl => ?_)
  refine lv_iload_n (pc := 34) hx hb dJ6_bitCount_0f7a4_34 rfl (lv_at hl 0 rfl) ?_
  refine lv_iload_n (pc := 35) hx hb dJ6_bitCount_0f7a4_35 rfl (lv_at hl 0 rfl) ?_
  refine lv_bipush (v := 8) (pc := 36) hx hb dJ6_bitCount_0f7a4_36 (by decide) ?_
  refine lv_iushr (pc := 38) hx hb dJ6_bitCount_0f7a4_38 rfl ?_
  refine lv_iadd (pc := 39) hx hb dJ6_bitCount_0f7a4_39 ?_
  refine lv_istore_n (lv' := [(0, .int ((((((x - (((x.toUInt32 >>> ((1 : Int32).toUInt32 &&& Int32.toUInt32 31)).toInt32) &&& (1431655765 : Int32))) &&& (858993459 : Int32)) + ((((x - (((x.toUInt32 >>> ((1 : Int32).toUInt32 &&& Int32.toUInt32 31)).toInt32) &&& (1431655765 : Int32))).toUInt32 >>> ((2 : Int32).toUInt32 &&& Int32.toUInt32 31)).toInt32) &&& (858993459 : Int32))) + (((((x - (((x.toUInt32 >>> ((1 : Int32).toUInt32 &&& Int32.toUInt32 31)).toInt32) &&& (1431655765 : Int32))) &&& (858993459 : Int32)) + ((((x - (((x.toUInt32 >>> ((1 : Int32).toUInt32 &&& Int32.toUInt32 31)).toInt32) &&& (1431655765 : Int32))).toUInt32 >>> ((2 : Int32).toUInt32 &&& Int32.toUInt32 31)).toInt32) &&& (858993459 : Int32))).toUInt32 >>> ((4 : Int32).toUInt32 &&& Int32.toUInt32 31)).toInt32)) &&& (252645135 : Int32)) + (((((((x - (((x.toUInt32 >>> ((1 : Int32).toUInt32 &&& Int32.toUInt32 31)).toInt32) &&& (1431655765 : Int32))) &&& (858993459 : Int32)) + ((((x - (((x.toUInt32 >>> ((1 : Int32).toUInt32 &&& Int32.toUInt32 31)).toInt32) &&& (1431655765 : Int32))).toUInt32 >>> ((2 : Int32).toUInt32 &&& Int32.toUInt32 31)).toInt32) &&& (858993459 : Int32))) + (((((x - (((x.toUInt32 >>> ((1 : Int32).toUInt32 &&& Int32.toUInt32 31)).toInt32) &&& (1431655765 : Int32))) &&& (858993459 : Int32)) + ((((x - (((x.toUInt32 >>> ((1 : Int32).toUInt32 &&& Int32.toUInt32 31)).toInt32) &&& (1431655765 : Int32))).toUInt32 >>> ((2 : Int32).toUInt32 &&& Int32.toUInt32 31)).toInt32) &&& (858993459 : Int32))).toUInt32 >>> ((4 : Int32).toUInt32 &&& Int32.toUInt32 31)).toInt32)) &&& (252645135 : Int32)).toUInt32 >>> ((8 : Int32).toUInt32 &&& Int32.toUInt32 31)).toInt32)))]) (pc := 40) hx hb dJ6_bitCount_0f7a4_40 rfl hl (by decide) rfl (fun ls hl => ?_)
  refine lv_iload_n (pc := 41) hx hb dJ6_bitCount_0f7a4_41 rfl (lv_at hl 0 rfl) ?_
  refine lv_iload_n (pc := 42) hx hb dJ6_bitCount_0f7a4_42 rfl (lv_at hl 0 rfl) ?_
  refine lv_bipush (v := 16) (pc := 43) hx hb dJ6_bitCount_0f7a4_43 (by decide) ?_
  refine lv_iushr (pc := 45) hx hb dJ6_bitCount_0f7a4_45 rfl ?_
  refine lv_iadd (pc := 46) hx hb dJ6_bitCount_0f7a4_46 ?_
  refine lv_istore_n (lv' := [(0, .int (((((((x - (((x.toUInt32 >>> ((1 : Int32).toUInt32 &&& Int32.toUInt32 31)).toInt32) &&& (1431655765 : Int32))) &&& (858993459 : Int32)) + ((((x - (((x.toUInt32 >>> ((1 : Int32).toUInt32 &&& Int32.toUInt32 31)).toInt32) &&& (1431655765 : Int32))).toUInt32 >>> ((2 : Int32).toUInt32 &&& Int32.toUInt32 31)).toInt32) &&& (858993459 : Int32))) + (((((x - (((x.toUInt32 >>> ((1 : Int32).toUInt32 &&& Int32.toUInt32 31)).toInt32) &&& (1431655765 : Int32))) &&& (858993459 : Int32)) + ((((x - (((x.toUInt32 >>> ((1 : Int32).toUInt32 &&& Int32.toUInt32 31)).toInt32) &&& (1431655765 : Int32))).toUInt32 >>> ((2 : Int32).toUInt32 &&& Int32.toUInt32 31)).toInt32) &&& (858993459 : Int32))).toUInt32 >>> ((4 : Int32).toUInt32 &&& Int32.toUInt32 31)).toInt32)) &&& (252645135 : Int32)) + (((((((x - (((x.toUInt32 >>> ((1 : Int32).toUInt32 &&& Int32.toUInt32 31)).toInt32) &&& (1431655765 : Int32))) &&& (858993459 : Int32)) + ((((x - (((x.toUInt32 >>> ((1 : Int32).toUInt32 &&& Int32.toUInt32 31)).toInt32) &&& (1431655765 : Int32))).toUInt32 >>> ((2 : Int32).toUInt32 &&& Int32.toUInt32 31)).toInt32) &&& (858993459 : Int32))) + (((((x - (((x.toUInt32 >>> ((1 : Int32).toUInt32 &&& Int32.toUInt32 31)).toInt32) &&& (1431655765 : Int32))) &&& (858993459 : Int32)) + ((((x - (((x.toUInt32 >>> ((1 : Int32).toUInt32 &&& Int32.toUInt32 31)).toInt32) &&& (1431655765 : Int32))).toUInt32 >>> ((2 : Int32).toUInt32 &&& Int32.toUInt32 31)).toInt32) &&& (858993459 : Int32))).toUInt32 >>> ((4 : Int32).toUInt32 &&& Int32.toUInt32 31)).toInt32)) &&& (252645135 : Int32)).toUInt32 >>> ((8 : Int32).toUInt32 &&& Int32.toUInt32 31)).toInt32)) + ((((((((x - (((x.toUInt32 >>> ((1 : Int32).toUInt32 &&& Int32.toUInt32 31)).toInt32) &&& (1431655765 : Int32))) &&& (858993459 : Int32)) + ((((x - (((x.toUInt32 >>> ((1 : Int32).toUInt32 &&& Int32.toUInt32 31)).toInt32) &&& (1431655765 : Int32))).toUInt32 >>> ((2 : Int32).toUInt32 &&& Int32.toUInt32 31)).toInt32) &&& (858993459 : Int32))) + (((((x - (((x.toUInt32 >>> ((1 : Int32).toUInt32 &&& Int32.toUInt32 31)).toInt32) &&& (1431655765 : Int32))) &&& (858993459 : Int32)) + ((((x - (((x.toUInt32 >>> ((1 : Int32).toUInt32 &&& Int32.toUInt32 31)).toInt32) &&& (1431655765 : Int32))).toUInt32 >>> ((2 : Int32).toUInt32 &&& Int32.toUInt32 31)).toInt32) &&& (858993459 : Int32))).toUInt32 >>> ((4 : Int32).toUInt32 &&& Int32.toUInt32 31)).toInt32)) &&& (252645135 : Int32)) + (((((((x - (((x.toUInt32 >>> ((1 : Int32).toUInt32 &&& Int32.toUInt32 31)).toInt32) &&& (1431655765 : Int32))) &&& (858993459 : Int32)) + ((((x - (((x.toUInt32 >>> ((1 : Int32).toUInt32 &&& Int32.toUInt32 31)).toInt32) &&& (1431655765 : Int32))).toUInt32 >>> ((2 : Int32).toUInt32 &&& Int32.toUInt32 31)).toInt32) &&& (858993459 : Int32))) + (((((x - (((x.toUInt32 >>> ((1 : Int32).toUInt32 &&& Int32.toUInt32 31)).toInt32) &&& (1431655765 : Int32))) &&& (858993459 : Int32)) + ((((x - (((x.toUInt32 >>> ((1 : Int32).toUInt32 &&& Int32.toUInt32 31)).toInt32) &&& (1431655765 : Int32))).toUInt32 >>> ((2 : Int32).toUInt32 &&& Int32.toUInt32 31)).toInt32) &&& (858993459 : Int32))).toUInt32 >>> ((4 : Int32).toUInt32 &&& Int32.toUInt32 31)).toInt32)) &&& (252645135 : Int32)).toUInt32 >>> ((8 : Int32).toUInt32 &&& Int32.toUInt32 31)).toInt32)).toUInt32 >>> ((16 : Int32).toUInt32 &&& Int32.toUInt32 31)).toInt32)))]) (pc := 47) hx hb dJ6_bitCount_0f7a4_47 rfl hl (by decide) rfl (fun ls hl => ?_)
  refine lv_iload_n (pc := 48) hx hb dJ6_bitCount_0f7a4_48 rfl (lv_at hl 0 rfl) ?_
  refine lv_bipush (v := 63) (pc := 49) hx hb dJ6_bitCount_0f7a4_49 (by decide) ?_
  refine lv_iand (pc := 51) hx hb dJ6_bitCount_0f7a4_51 ?_
  have hF : F_J6_bitCount x = (((((((x - (((x.toUInt32 >>> ((1 : Int32).toUInt32 &&& Int32.toUInt32 31)).toInt32) &&& (1431655765 : Int32))) &&& (858993459 : Int32)) + ((((x - (((x.toUInt32 >>> ((1 : Int32).toUInt32 &&& Int32.toUInt32 31)).toInt32) &&& (1431655765 : Int32))).toUInt32 >>> ((2 : Int32).toUInt32 &&& Int32.toUInt32 31)).toInt32) &&& (858993459 : Int32))) + (((((x - (((x.toUInt32 >>> ((1 : Int32).toUInt32 &&& Int32.toUInt32 31)).toInt32) &&& (1431655765 : Int32))) &&& (858993459 : Int32)) + ((((x - (((x.toUInt32 >>> ((1 : Int32).toUInt32 &&& Int32.toUInt32 31)).toInt32) &&& (1431655765 : Int32))).toUInt32 >>> ((2 : Int32).toUInt32 &&& Int32.toUInt32 31)).toInt32) &&& (858993459 : Int32))).toUInt32 >>> ((4 : Int32).toUInt32 &&& Int32.toUInt32 31)).toInt32)) &&& (252645135 : Int32)) + (((((((x - (((x.toUInt32 >>> ((1 : Int32).toUInt32 &&& Int32.toUInt32 31)).toInt32) &&& (1431655765 : Int32))) &&& (858993459 : Int32)) + ((((x - (((x.toUInt32 >>> ((1 : Int32).toUInt32 &&& Int32.toUInt32 31)).toInt32) &&& (1431655765 : Int32))).toUInt32 >>> ((2 : Int32).toUInt32 &&& Int32.toUInt32 31)).toInt32) &&& (858993459 : Int32))) + (((((x - (((x.toUInt32 >>> ((1 : Int32).toUInt32 &&& Int32.toUInt32 31)).toInt32) &&& (1431655765 : Int32))) &&& (858993459 : Int32)) + ((((x - (((x.toUInt32 >>> ((1 : Int32).toUInt32 &&& Int32.toUInt32 31)).toInt32) &&& (1431655765 : Int32))).toUInt32 >>> ((2 : Int32).toUInt32 &&& Int32.toUInt32 31)).toInt32) &&& (858993459 : Int32))).toUInt32 >>> ((4 : Int32).toUInt32 &&& Int32.toUInt32 31)).toInt32)) &&& (252645135 : Int32)).toUInt32 >>> ((8 : Int32).toUInt32 &&& Int32.toUInt32 31)).toInt32)) + ((((((((x - (((x.toUInt32 >>> ((1 : Int32).toUInt32 &&& Int32.toUInt32 31)).toInt32) &&& (1431655765 : Int32))) &&& (858993459 : Int32)) + ((((x - (((x.toUInt32 >>> ((1 : Int32).toUInt32 &&& Int32.toUInt32 31)).toInt32) &&& (1431655765 : Int32))).toUInt32 >>> ((2 : Int32).toUInt32 &&& Int32.toUInt32 31)).toInt32) &&& (858993459 : Int32))) + (((((x - (((x.toUInt32 >>> ((1 : Int32).toUInt32 &&& Int32.toUInt32 31)).toInt32) &&& (1431655765 : Int32))) &&& (858993459 : Int32)) + ((((x - (((x.toUInt32 >>> ((1 : Int32).toUInt32 &&& Int32.toUInt32 31)).toInt32) &&& (1431655765 : Int32))).toUInt32 >>> ((2 : Int32).toUInt32 &&& Int32.toUInt32 31)).toInt32) &&& (858993459 : Int32))).toUInt32 >>> ((4 : Int32).toUInt32 &&& Int32.toUInt32 31)).toInt32)) &&& (252645135 : Int32)) + (((((((x - (((x.toUInt32 >>> ((1 : Int32).toUInt32 &&& Int32.toUInt32 31)).toInt32) &&& (1431655765 : Int32))) &&& (858993459 : Int32)) + ((((x - (((x.toUInt32 >>> ((1 : Int32).toUInt32 &&& Int32.toUInt32 31)).toInt32) &&& (1431655765 : Int32))).toUInt32 >>> ((2 : Int32).toUInt32 &&& Int32.toUInt32 31)).toInt32) &&& (858993459 : Int32))) + (((((x - (((x.toUInt32 >>> ((1 : Int32).toUInt32 &&& Int32.toUInt32 31)).toInt32) &&& (1431655765 : Int32))) &&& (858993459 : Int32)) + ((((x - (((x.toUInt32 >>> ((1 : Int32).toUInt32 &&& Int32.toUInt32 31)).toInt32) &&& (1431655765 : Int32))).toUInt32 >>> ((2 : Int32).toUInt32 &&& Int32.toUInt32 31)).toInt32) &&& (858993459 : Int32))).toUInt32 >>> ((4 : Int32).toUInt32 &&& Int32.toUInt32 31)).toInt32)) &&& (252645135 : Int32)).toUInt32 >>> ((8 : Int32).toUInt32 &&& Int32.toUInt32 31)).toInt32)).toUInt32 >>> ((16 : Int32).toUInt32 &&& Int32.toUInt32 31)).toInt32)) &&& (63 : Int32) := show F_J6_bitCount x = (((((((x - (((x.toUInt32 >>> ((1 : Int32).toUInt32 &&& Int32.toUInt32 31)).toInt32) &&& (1431655765 : Int32))) &&& (858993459 : Int32)) + ((((x - (((x.toUInt32 >>> ((1 : Int32).toUInt32 &&& Int32.toUInt32 31)).toInt32) &&& (1431655765 : Int32))).toUInt32 >>> ((2 : Int32).toUInt32 &&& Int32.toUInt32 31)).toInt32) &&& (858993459 : Int32))) + (((((x - (((x.toUInt32 >>> ((1 : Int32).toUInt32 &&& Int32.toUInt32 31)).toInt32) &&& (1431655765 : Int32))) &&& (858993459 : Int32)) + ((((x - (((x.toUInt32 >>> ((1 : Int32).toUInt32 &&& Int32.toUInt32 31)).toInt32) &&& (1431655765 : Int32))).toUInt32 >>> ((2 : Int32).toUInt32 &&& Int32.toUInt32 31)).toInt32) &&& (858993459 : Int32))).toUInt32 >>> ((4 : Int32).toUInt32 &&& Int32.toUInt32 31)).toInt32)) &&& (252645135 : Int32)) + (((((((x - (((x.toUInt32 >>> ((1 : Int32).toUInt32 &&& Int32.toUInt32 31)).toInt32) &&& (1431655765 : Int32))) &&& (858993459 : Int32)) + ((((x - (((x.toUInt32 >>> ((1 : Int32).toUInt32 &&& Int32.toUInt32 31)).toInt32) &&& (1431655765 : Int32))).toUInt32 >>> ((2 : Int32).toUInt32 &&& Int32.toUInt32 31)).toInt32) &&& (858993459 : Int32))) + (((((x - (((x.toUInt32 >>> ((1 : Int32).toUInt32 &&& Int32.toUInt32 31)).toInt32) &&& (1431655765 : Int32))) &&& (858993459 : Int32)) + ((((x - (((x.toUInt32 >>> ((1 : Int32).toUInt32 &&& Int32.toUInt32 31)).toInt32) &&& (1431655765 : Int32))).toUInt32 >>> ((2 : Int32).toUInt32 &&& Int32.toUInt32 31)).toInt32) &&& (858993459 : Int32))).toUInt32 >>> ((4 : Int32).toUInt32 &&& Int32.toUInt32 31)).toInt32)) &&& (252645135 : Int32)).toUInt32 >>> ((8 : Int32).toUInt32 &&& Int32.toUInt32 31)).toInt32)) + ((((((((x - (((x.toUInt32 >>> ((1 : Int32).toUInt32 &&& Int32.toUInt32 31)).toInt32) &&& (1431655765 : Int32))) &&& (858993459 : Int32)) + ((((x - (((x.toUInt32 >>> ((1 : Int32).toUInt32 &&& Int32.toUInt32 31)).toInt32) &&& (1431655765 : Int32))).toUInt32 >>> ((2 : Int32).toUInt32 &&& Int32.toUInt32 31)).toInt32) &&& (858993459 : Int32))) + (((((x - (((x.toUInt32 >>> ((1 : Int32).toUInt32 &&& Int32.toUInt32 31)).toInt32) &&& (1431655765 : Int32))) &&& (858993459 : Int32)) + ((((x - (((x.toUInt32 >>> ((1 : Int32).toUInt32 &&& Int32.toUInt32 31)).toInt32) &&& (1431655765 : Int32))).toUInt32 >>> ((2 : Int32).toUInt32 &&& Int32.toUInt32 31)).toInt32) &&& (858993459 : Int32))).toUInt32 >>> ((4 : Int32).toUInt32 &&& Int32.toUInt32 31)).toInt32)) &&& (252645135 : Int32)) + (((((((x - (((x.toUInt32 >>> ((1 : Int32).toUInt32 &&& Int32.toUInt32 31)).toInt32) &&& (1431655765 : Int32))) &&& (858993459 : Int32)) + ((((x - (((x.toUInt32 >>> ((1 : Int32).toUInt32 &&& Int32.toUInt32 31)).toInt32) &&& (1431655765 : Int32))).toUInt32 >>> ((2 : Int32).toUInt32 &&& Int32.toUInt32 31)).toInt32) &&& (858993459 : Int32))) + (((((x - (((x.toUInt32 >>> ((1 : Int32).toUInt32 &&& Int32.toUInt32 31)).toInt32) &&& (1431655765 : Int32))) &&& (858993459 : Int32)) + ((((x - (((x.toUInt32 >>> ((1 : Int32).toUInt32 &&& Int32.toUInt32 31)).toInt32) &&& (1431655765 : Int32))).toUInt32 >>> ((2 : Int32).toUInt32 &&& Int32.toUInt32 31)).toInt32) &&& (858993459 : Int32))).toUInt32 >>> ((4 : Int32).toUInt32 &&& Int32.toUInt32 31)).toInt32)) &&& (252645135 : Int32)).toUInt32 >>> ((8 : Int32).toUInt32 &&& Int32.toUInt32 31)).toInt32)).toUInt32 >>> ((16 : Int32).toUInt32 &&& Int32.toUInt32 31)).toInt32)) &&& (63 : Int32) from rfl
  exact e_i (u := []) X hQ hr (hW) [] rfl rfl (⟨hF.symm, rfl⟩) ⟨Nat.le_of_ble_eq_true rfl, Nat.le_of_ble_eq_true rfl⟩ dJ6_bitCount_0f7a4_52

def mn2 (x y : Int32) : Int32 := if y < x then y else x
def L1_X7_upperEnds (zp : Nat) (cA : Nat → Int32) (ho : Nat) (j1 : Nat) (x5_1 : Int32) (x4_1 : Int32) : Int32 × Int32 := (mn2 ((2 : Int32) * x5_1) (F_J6_bitCount (F_X7_comeToAfter zp cA x4_1 (ho + j1))), F_X7_comeToAfter zp cA x4_1 (ho + j1))
def L1_X7_upperEnd (zp : Nat) (cA : Nat → Int32) (ho : Nat) (i0_ : Int32) (i1_ : Int32) : Nat → Int32 × Int32
  | 0 => (i0_, i1_)
  | k_ + 1 => L1_X7_upperEnds zp cA ho k_ ((L1_X7_upperEnd zp cA ho i0_ i1_ k_).1) ((L1_X7_upperEnd zp cA ho i0_ i1_ k_).2)
def F_X7_upperEnd (zp : Nat) (zt : Int32) (cA : Nat → Int32) (kw : Int32) (ho : Nat) (k : Nat) : Int32 := ((L1_X7_upperEnd zp cA ho (F_J6_bitCount (kw &&& zt)) (kw &&& zt) k).1)
set_option maxHeartbeats 4000000 in
set_option maxRecDepth 100000 in
theorem K_X7_upperEnd (l : Launch) (g : GG) (z0 : Nat) (zr : Nat) (zc : Nat) (ze1 : Nat) (ze2 : Nat) (ze3 : Nat) (ze4 : Nat) (ze5 : Nat) (ze6 : Nat) (zp : Nat) (zd : Int32) (zt : Int32) (zm : Int32) (zi0 : Int32) (zi1 : Int32) (zi2 : Int32) (zi3 : Int32) (zi4 : Int32) (cA : Nat → Int32) (kw : Int32) (ho : Nat) (k : Nat) (hzp : zp ≤ 7) (hho : ho + k ≤ 25) : MetI l g yX7_upperEnd cX7_upperEnd 7 (some .int) 2 0 0 [.ref z0, .int kw, .int (nI ho), .int (nI k)] [(z0, .inr (7, [.ref zr, .int (nI zp), .int zd, .int zt, .int zm, .ref zc, .ref ze1, .ref ze2, .ref ze3, .ref ze4, .ref ze5, .ref ze6, .int zi0, .int zi1, .int zi2, .int zi3, .int zi4])), (zc, .inl (g.2.1 1, 175, .inl cA))] (fun r u => r = (F_X7_upperEnd zp zt cA kw ho k) ∧ u = [(z0, .inr (7, [.ref zr, .int (nI zp), .int zd, .int zt, .int zm, .ref zc, .ref ze1, .ref ze2, .ref ze3, .ref ze4, .ref ze5, .ref ze6, .int zi0, .int zi1, .int zi2, .int zi3, .int zi4])), (zc, .inl (g.2.1 1, 175, .inl cA))]) := by
  refine MetI.of (own := RX7) rfl (by decide) (Nat.le_of_ble_eq_true rfl) ?_
  intro p e s m below meth c A ls args Q hQ X hr hin hW hl
  have hx := X.1
  have hb := X.2.1
  have hl : lv_has ls 7 [(0, .ref z0), (1, .int kw), (2, .int (nI ho)), (3, .int (nI k))] := hl
  refine lv_iload_n (pc := 0) hx hb dX7_upperEnd_0 rfl (lv_at hl 1 rfl) ?_
  refine lv_aload_n (pc := 1) hx hb dX7_upperEnd_1 rfl (lv_at hl 0 rfl) ?_
  refine r_get X hW 0 ciX7 3 rfl (by decide) m_116 rfl rfl dX7_upperEnd_2 ?_
  refine lv_iand (pc := 5) hx hb dX7_upperEnd_5 ?_
  refine lv_istore (lv' := [(4, .int (kw &&& zt)), (0, .ref z0), (1, .int kw), (2, .int (nI ho)), (3, .int (nI k))]) (pc := 6) hx hb dX7_upperEnd_6 hl (by decide) rfl (fun ls hl => ?_)
  refine lv_iload (pc := 8) hx hb dX7_upperEnd_8 (lv_at hl 0 rfl) ?_
  refine c_Si (pc := 10) (As := [.int (kw &&& zt)]) (rest := []) (wr := [(z0, .inr (7, [.ref zr, .int (nI zp), .int zd, .int zt, .int zm, .ref zc, .ref ze1, .ref ze2, .ref ze3, .ref ze4, .ref ze5, .ref ze6, .int zi0, .int zi1, .int zi2, .int zi3, .int zi4])), (zc, .inl (g.2.1 1, 175, .inl cA))]) X hW (K_J6_bitCount l g (kw &&& zt)) vX7_153 [] [0, 1] rfl rfl rfl rfl rfl rfl hl.1 rfl (Nat.le_of_ble_eq_true rfl) ⟨Nat.le_of_ble_eq_true rfl, Nat.le_of_ble_eq_true rfl⟩ ⟨Nat.le_of_ble_eq_true rfl, Nat.le_of_ble_eq_true rfl⟩ dX7_upperEnd_10 (fun r1 u9 H locs hq hW => ?_)
  obtain ⟨rfl, rfl⟩ := hq
  have hW : WD g A s _ _ [(z0, .inr (7, [.ref zr, .int (nI zp), .int zd, .int zt, .int zm, .ref zc, .ref ze1, .ref ze2, .ref ze3, .ref ze4, .ref ze5, .ref ze6, .int zi0, .int zi1, .int zi2, .int zi3, .int zi4])), (zc, .inl (g.2.1 1, 175, .inl cA))] := hW
  refine lv_istore (lv' := [(5, .int (F_J6_bitCount (kw &&& zt))), (4, .int (kw &&& zt)), (0, .ref z0), (1, .int kw), (2, .int (nI ho)), (3, .int (nI k))]) (pc := 13) hx hb dX7_upperEnd_13 hl (by decide) rfl (fun ls hl => ?_)
  refine lv_iload_n (pc := 15) hx hb dX7_upperEnd_15 rfl (lv_at hl 4 rfl) ?_
  refine lv_istore (lv' := [(6, .int (nI ho)), (5, .int (F_J6_bitCount (kw &&& zt))), (4, .int (kw &&& zt)), (0, .ref z0), (1, .int kw), (2, .int (nI ho)), (3, .int (nI k))]) (pc := 16) hx hb dX7_upperEnd_16 hl (by decide) rfl (fun ls hl => ?_)
  have loop1 : ∀ (fu1 : Nat) (j1 : Nat) (x5_1 : Int32) (x4_1 : Int32), (k < fu1 + j1) → (j1 ≤ k) → ((x5_1, x4_1) = L1_X7_upperEnd zp cA ho (F_J6_bitCount (kw &&& zt)) (kw &&& zt) j1) → ∀ (H : Heap) (locs : List Loc) (ls : Array Slot), WD g A s H locs [(z0, .inr (7, [.ref zr, .int (nI zp), .int zd, .int zt, .int zm, .ref zc, .ref ze1, .ref ze2, .ref ze3, .ref ze4, .ref ze5, .ref ze6, .int zi0, .int zi1, .int zi2, .int zi3, .int zi4])), (zc, .inl (g.2.1 1, 175, .inl cA))] → lv_has ls 7 [(6, .int (nI (ho + j1))), (5, .int x5_1), (4, .int x4_1), (0, .ref z0), (1, .int kw), (2, .int (nI ho)), (3, .int (nI k))] → W p l e (RM 2 0 0) s m args below meth c H locs 0 0 Q (F0 m 18 ls []) := by
    intro fu1
    induction fu1 with
    | zero =>
      intro j1 x5_1 x4_1 hm1 hj1 hst1
      exact absurd hm1 (by omega)
    | succ fu1 ih1 =>
      intro j1 x5_1 x4_1 hm1 hj1 hst1 H locs ls hW hl
      refine lv_iload (pc := 18) hx hb dX7_upperEnd_18 (lv_at hl 0 rfl) ?_
      refine lv_iload_n (pc := 20) hx hb dX7_upperEnd_20 rfl (lv_at hl 5 rfl) ?_
      refine lv_iload_n (pc := 21) hx hb dX7_upperEnd_21 rfl (lv_at hl 6 rfl) ?_
      refine lv_iadd (pc := 22) hx hb dX7_upperEnd_22 ?_
      refine lv_topi (fun v2 ev2 => ?_)
      obtain rfl : v2 = nI (ho + k) := ev2.trans (nI_add _ _)
      refine lv_icmp_ge (tgt := 56) (pc := 23) hx hb dX7_upperEnd_23 rfl (fun c3 => ?_) (fun c3 => ?_)
      · have h4 : (ho + k) ≤ (ho + j1) := (nI_leI (a := (ho + k)) (b := (ho + j1)) (by omega) (by omega)).mp c3
        have hN1 : j1 = k := by omega
        rw [hN1] at hst1
        have hs1_0 : x5_1 = (L1_X7_upperEnd zp cA ho (F_J6_bitCount (kw &&& zt)) (kw &&& zt) k).1 := congrArg (fun z => z.1) hst1
        have hs1_1 : x4_1 = (L1_X7_upperEnd zp cA ho (F_J6_bitCount (kw &&& zt)) (kw &&& zt) k).2 := congrArg (fun z => z.2) hst1
        clear hst1
        subst hs1_0
        subst hs1_1
        have hW : WD g A s _ _ [(z0, .inr (7, [.ref zr, .int (nI zp), .int zd, .int zt, .int zm, .ref zc, .ref ze1, .ref ze2, .ref ze3, .ref ze4, .ref ze5, .ref ze6, .int zi0, .int zi1, .int zi2, .int zi3, .int zi4])), (zc, .inl (g.2.1 1, 175, .inl cA))] := hW
        refine lv_iload (pc := 56) hx hb dX7_upperEnd_56 (lv_at hl 1 rfl) ?_
        have hF : F_X7_upperEnd zp zt cA kw ho k = ((L1_X7_upperEnd zp cA ho (F_J6_bitCount (kw &&& zt)) (kw &&& zt) k).1) := show F_X7_upperEnd zp zt cA kw ho k = ((L1_X7_upperEnd zp cA ho (F_J6_bitCount (kw &&& zt)) (kw &&& zt) k).1) from rfl
        exact e_i (u := [(z0, .inr (7, [.ref zr, .int (nI zp), .int zd, .int zt, .int zm, .ref zc, .ref ze1, .ref ze2, .ref ze3, .ref ze4, .ref ze5, .ref ze6, .int zi0, .int zi1, .int zi2, .int zi3, .int zi4])), (zc, .inl (g.2.1 1, 175, .inl cA))]) X hQ hr (hW) [0, 1] rfl rfl (⟨hF.symm, rfl⟩) ⟨Nat.le_of_ble_eq_true rfl, Nat.le_of_ble_eq_true rfl⟩ dX7_upperEnd_58
      · have h5 : ¬ ((ho + k) ≤ (ho + j1)) := fun q => c3 ((nI_leI (a := (ho + k)) (b := (ho + j1)) (by omega) (by omega)).mpr q)
        refine lv_aload_n (pc := 26) hx hb dX7_upperEnd_26 rfl (lv_at hl 3 rfl) ?_
        refine lv_iload (pc := 27) hx hb dX7_upperEnd_27 (lv_at hl 2 rfl) ?_
        refine lv_iload (pc := 29) hx hb dX7_upperEnd_29 (lv_at hl 0 rfl) ?_
        refine c_Vi (pc := 31) (As := [.int x4_1, .int (nI (ho + j1))]) (rest := []) (wr := []) X hW 0 ciX7 rfl (K_X7_comeToAfter l g z0 zr zc ze1 ze2 ze3 ze4 ze5 ze6 zp zd zt zm zi0 zi1 zi2 zi3 zi4 cA x4_1 (ho + j1) (by omega) (by omega)) vX7_150 [0, 1] [] rfl rfl rfl rfl rfl rfl hl.1 rfl (Nat.le_of_ble_eq_true rfl) ⟨Nat.le_of_ble_eq_true rfl, Nat.le_of_ble_eq_true rfl⟩ ⟨Nat.le_of_ble_eq_true rfl, Nat.le_of_ble_eq_true rfl⟩ dX7_upperEnd_31 (fun r6 u9 H locs hq hW => ?_)
        obtain ⟨rfl, rfl⟩ := hq
        have hW : WD g A s _ _ [(z0, .inr (7, [.ref zr, .int (nI zp), .int zd, .int zt, .int zm, .ref zc, .ref ze1, .ref ze2, .ref ze3, .ref ze4, .ref ze5, .ref ze6, .int zi0, .int zi1, .int zi2, .int zi3, .int zi4])), (zc, .inl (g.2.1 1, 175, .inl cA))] := hW
        refine lv_istore (lv' := [(4, .int (F_X7_comeToAfter zp cA x4_1 (ho + j1))), (6, .int (nI (ho + j1))), (5, .int x5_1), (0, .ref z0), (1, .int kw), (2, .int (nI ho)), (3, .int (nI k))]) (pc := 34) hx hb dX7_upperEnd_34 hl (by decide) rfl (fun ls hl => ?_)
        refine lv_iconst (v := 2) (pc := 36) hx hb dX7_upperEnd_36 (by decide) ?_
        refine lv_iload (pc := 37) hx hb dX7_upperEnd_37 (lv_at hl 2 rfl) ?_
        refine lv_imul (pc := 39) hx hb dX7_upperEnd_39 ?_
        refine lv_iload (pc := 40) hx hb dX7_upperEnd_40 (lv_at hl 0 rfl) ?_
        refine c_Si (pc := 42) (As := [.int (F_X7_comeToAfter zp cA x4_1 (ho + j1))]) (rest := [.int ((2 : Int32) * x5_1)]) (wr := [(z0, .inr (7, [.ref zr, .int (nI zp), .int zd, .int zt, .int zm, .ref zc, .ref ze1, .ref ze2, .ref ze3, .ref ze4, .ref ze5, .ref ze6, .int zi0, .int zi1, .int zi2, .int zi3, .int zi4])), (zc, .inl (g.2.1 1, 175, .inl cA))]) X hW (K_J6_bitCount l g (F_X7_comeToAfter zp cA x4_1 (ho + j1))) vX7_153 [] [0, 1] rfl rfl rfl rfl rfl rfl hl.1 rfl (Nat.le_of_ble_eq_true rfl) ⟨Nat.le_of_ble_eq_true rfl, Nat.le_of_ble_eq_true rfl⟩ ⟨Nat.le_of_ble_eq_true rfl, Nat.le_of_ble_eq_true rfl⟩ dX7_upperEnd_42 (fun r7 u9 H locs hq hW => ?_)
        obtain ⟨rfl, rfl⟩ := hq
        have hW : WD g A s _ _ [(z0, .inr (7, [.ref zr, .int (nI zp), .int zd, .int zt, .int zm, .ref zc, .ref ze1, .ref ze2, .ref ze3, .ref ze4, .ref ze5, .ref ze6, .int zi0, .int zi1, .int zi2, .int zi3, .int zi4])), (zc, .inl (g.2.1 1, 175, .inl cA))] := hW
        refine va_mmin (pc := 45) hx hb (X.2.2.1.trans hl.1.symm) X.2.2.2.1 (X.2.2.2.2.1 _ mm_X7_45) (X.2.2.2.2.1 _ mms_min) (X.2.2.2.2.1 _ m_19) (X.2.2.2.2.1 _ mmc_min) (Nat.le_of_ble_eq_true rfl) (Nat.le_of_ble_eq_true rfl) (Nat.le_of_ble_eq_true rfl) (Nat.le_of_ble_eq_true rfl) dX7_upperEnd_45 ?_
        refine lv_topi (fun v8 ev8 => ?_)
        obtain rfl : v8 = mn2 ((2 : Int32) * x5_1) (F_J6_bitCount (F_X7_comeToAfter zp cA x4_1 (ho + j1))) := ev8.trans (rfl)
        refine lv_istore (lv' := [(5, .int (mn2 ((2 : Int32) * x5_1) (F_J6_bitCount (F_X7_comeToAfter zp cA x4_1 (ho + j1))))), (4, .int (F_X7_comeToAfter zp cA x4_1 (ho + j1))), (6, .int (nI (ho + j1))), (0, .ref z0), (1, .int kw), (2, .int (nI ho)), (3, .int (nI k))]) (pc := 48) hx hb dX7_upperEnd_48 hl (by decide) rfl (fun ls hl => ?_)
        refine lv_iinc (v := nI (ho + j1 + 1)) (lv' := [(6, .int (nI (ho + j1 + 1))), (5, .int (mn2 ((2 : Int32) * x5_1) (F_J6_bitCount (F_X7_comeToAfter zp cA x4_1 (ho + j1))))), (4, .int (F_X7_comeToAfter zp cA x4_1 (ho + j1))), (0, .ref z0), (1, .int kw), (2, .int (nI ho)), (3, .int (nI k))]) (pc := 50) hx hb dX7_upperEnd_50 hl (k := 2) rfl (nI_add (ho + j1) 1) (by decide) rfl (fun ls hl => ?_)
        refine lv_goto (tgt := 18) (pc := 53) hx hb dX7_upperEnd_53 rfl ?_
        exact ih1 (j1 + 1) (mn2 ((2 : Int32) * x5_1) (F_J6_bitCount (F_X7_comeToAfter zp cA x4_1 (ho + j1)))) (F_X7_comeToAfter zp cA x4_1 (ho + j1)) (by omega) (by omega) (by rw [L1_X7_upperEnd, ← hst1]; exact (show L1_X7_upperEnds zp cA ho j1 x5_1 x4_1 = (mn2 ((2 : Int32) * x5_1) (F_J6_bitCount (F_X7_comeToAfter zp cA x4_1 (ho + j1))), F_X7_comeToAfter zp cA x4_1 (ho + j1)) from rfl).symm) _ _ _ hW (lv_sub hl [0, 1, 2, 3, 4, 5, 6] rfl)
  exact loop1 (k + 1) 0 (F_J6_bitCount (kw &&& zt)) (kw &&& zt) (by omega) (by omega) rfl _ _ _ hW (lv_sub hl [0, 1, 2, 3, 4, 5, 6] rfl)

def F_X11_reach0  : Int32 := (-1 : Int32)
set_option maxHeartbeats 4000000 in
set_option maxRecDepth 100000 in
theorem K_X11_reach0 (l : Launch) (g : GG) (h0 : Nat) (a0 : Nat) (a1 : Nat) (a2 : Nat) (a3 : Nat) (a4 : Nat) (a5 : Nat) (a6 : Nat) (a7 : Nat) (a8 : Nat) (a9 : Nat) (a10 : Nat) (nv : Nat) (np : Nat) (cc : Int32) (fA : Nat → Option Nat) (x : Int32) (y : Int32) (z : Int32) (t : Int32) (hbad : x < 0 ∨ nI nv ≤ x) : MetI l g yX11_reach cX11_reach 6 (some .int) 1 0 0 [.ref h0, .int x, .int y, .int z, .int t] [(h0, .inr (11, [.ref a0, .ref a1, .ref a2, .ref a3, .ref a4, .ref a5, .ref a6, .ref a7, .ref a8, .ref a9, .ref a10, .int (nI nv), .int (nI np), .int cc])), (a1, .inl (g.2.1 4, 10, .inr (.inr (.inr (.inr fA)))))] (fun r u => r = F_X11_reach0 ∧ u = [(h0, .inr (11, [.ref a0, .ref a1, .ref a2, .ref a3, .ref a4, .ref a5, .ref a6, .ref a7, .ref a8, .ref a9, .ref a10, .int (nI nv), .int (nI np), .int cc])), (a1, .inl (g.2.1 4, 10, .inr (.inr (.inr (.inr fA)))))]) := by
  refine MetI.of (own := RX11) rfl (by decide) (Nat.le_of_ble_eq_true rfl) ?_
  intro p e s m below meth c A ls args Q hQ X hr hin hW hl
  have hx := X.1
  have hb := X.2.1
  have hl : lv_has ls 6 [(0, .ref h0), (1, .int x), (2, .int y), (3, .int z), (4, .int t)] := hl
  refine lv_aload_n (pc := 0) hx hb dX11_reach_0 rfl (lv_at hl 0 rfl) ?_
  refine lv_iload_n (pc := 1) hx hb dX11_reach_1 rfl (lv_at hl 1 rfl) ?_
  refine c_Vq (pc := 2) (As := [.int x]) (rest := []) (wr := []) X hW 0 ciX11 rfl (C_X11_valleyAt0 l g h0 a0 a1 a2 a3 a4 a5 a6 a7 a8 a9 a10 nv np cc fA x hbad) vX11_101 [0, 1] [] rfl rfl rfl rfl rfl rfl hl.1 rfl (Nat.le_of_ble_eq_true rfl) ⟨Nat.le_of_ble_eq_true rfl, Nat.le_of_ble_eq_true rfl⟩ ⟨Nat.le_of_ble_eq_true rfl, Nat.le_of_ble_eq_true rfl⟩ dX11_reach_2 (fun r1 u9 H locs hq hW => ?_)
  obtain ⟨rfl, rfl⟩ := hq
  have hW : WD g A s _ _ [(h0, .inr (11, [.ref a0, .ref a1, .ref a2, .ref a3, .ref a4, .ref a5, .ref a6, .ref a7, .ref a8, .ref a9, .ref a10, .int (nI nv), .int (nI np), .int cc])), (a1, .inl (g.2.1 4, 10, .inr (.inr (.inr (.inr fA)))))] := hW
  refine lv_astoreN (lv' := [(5, .null), (0, .ref h0), (1, .int x), (2, .int y), (3, .int z), (4, .int t)]) (pc := 5) hx hb dX11_reach_5 hl (by decide) rfl (fun ls hl => ?_)
  refine lv_aloadN (pc := 7) hx hb dX11_reach_7 (lv_at hl 0 rfl) ?_
  refine lv_ifnullN (tgt := 40) (pc := 9) hx hb dX11_reach_9 rfl ?_
  refine lv_iconst (v := (-1)) (pc := 40) hx hb dX11_reach_40 (by decide) ?_
  have hF : F_X11_reach0 = (-1 : Int32) := show F_X11_reach0 = (-1 : Int32) from rfl
  exact e_i (u := [(h0, .inr (11, [.ref a0, .ref a1, .ref a2, .ref a3, .ref a4, .ref a5, .ref a6, .ref a7, .ref a8, .ref a9, .ref a10, .int (nI nv), .int (nI np), .int cc])), (a1, .inl (g.2.1 4, 10, .inr (.inr (.inr (.inr fA)))))]) X hQ hr (hW) [0, 1] rfl rfl (⟨hF.symm, rfl⟩) ⟨Nat.le_of_ble_eq_true rfl, Nat.le_of_ble_eq_true rfl⟩ dX11_reach_41

def F_X11_reach1 (zp : Int32) (zd : Int32) (zt : Int32) (zm : Int32) (cA : Nat → Int32) (pe : Nat) (de : Int32) (kn : Nat → Int32) (mu : Nat → Int32) (mn : Nat → Int32) (K : Nat → Int32) (y : Int32) (z : Int32) (t : Int32) : Int32 × Int32 × Int32 × Int32 × Int32 × (Nat → Int32) := if F_X11_isNews y = 0 then (((-1 : Int32), zp, zd, zt, zm, cA)) else (if F_X11_isHour z = 0 then (((-1 : Int32), zp, zd, zt, zm, cA)) else (if t < 0 then (((-1 : Int32), zp, zd, zt, zm, cA)) else (if t ≤ nI (25 - (tN z)) then (((F_X7_upperEnd pe ((F_X7_prepare cA pe de mu mn K (tN y)).2.1) ((F_X7_prepare cA pe de mu mn K (tN y)).2.2.2) (kn (tN y)) (tN z) (tN t)), nI pe, ((F_X7_prepare cA pe de mu mn K (tN y)).1), ((F_X7_prepare cA pe de mu mn K (tN y)).2.1), ((F_X7_prepare cA pe de mu mn K (tN y)).2.2.1), ((F_X7_prepare cA pe de mu mn K (tN y)).2.2.2))) else (((-1 : Int32), zp, zd, zt, zm, cA)))))
set_option maxHeartbeats 4000000 in
set_option maxRecDepth 100000 in
theorem K_X11_reach1 (l : Launch) (g : GG) (h0 : Nat) (a0 : Nat) (a1 : Nat) (a2 : Nat) (a3 : Nat) (a4 : Nat) (a5 : Nat) (a6 : Nat) (a7 : Nat) (a8 : Nat) (a9 : Nat) (a10 : Nat) (nv : Nat) (np : Nat) (cc : Int32) (fA : Nat → Option Nat) (i : Nat) (zr : Nat) (zc : Nat) (ze1 : Nat) (ze2 : Nat) (ze3 : Nat) (ze4 : Nat) (ze5 : Nat) (ze6 : Nat) (zp : Int32) (zd : Int32) (zt : Int32) (zm : Int32) (zi0 : Int32) (zi1 : Int32) (zi2 : Int32) (zi3 : Int32) (zi4 : Int32) (cA : Nat → Int32) (v : Nat) (v3 : Nat) (v4 : Nat) (v5 : Nat) (v6 : Nat) (v7 : Nat) (v8 : Nat) (v9 : Nat) (v10 : Nat) (v11 : Nat) (v12 : Nat) (v13 : Nat) (v15 : Nat) (pe : Nat) (lc : Int32) (de : Int32) (gl : Int32) (kn : Nat → Int32) (mu : Nat → Int32) (mn : Nat → Int32) (K : Nat → Int32) (y : Int32) (z : Int32) (t : Int32) (hi : i < nv) (hn : nv ≤ 10) (hA : fA i = some v) (hpe : pe ≤ 7) : MetI l g yX11_reach cX11_reach 6 (some .int) 3 0 0 [.ref h0, .int (nI i), .int y, .int z, .int t] [(h0, .inr (11, [.ref a0, .ref a1, .ref a2, .ref a3, .ref a4, .ref a5, .ref a6, .ref a7, .ref a8, .ref a9, .ref a10, .int (nI nv), .int (nI np), .int cc])), (a1, .inl (g.2.1 4, 10, .inr (.inr (.inr (.inr fA))))), (a4, .inr (7, [.ref zr, .int zp, .int zd, .int zt, .int zm, .ref zc, .ref ze1, .ref ze2, .ref ze3, .ref ze4, .ref ze5, .ref ze6, .int zi0, .int zi1, .int zi2, .int zi3, .int zi4])), (zc, .inl (g.2.1 1, 175, .inl cA)), (v, .inr (10, [.int (nI pe), .int lc, .int de, .ref v3, .ref v4, .ref v5, .ref v6, .ref v7, .ref v8, .ref v9, .ref v10, .ref v11, .ref v12, .ref v13, .int gl, .ref v15])), (v3, .inl (g.2.1 1, 4, .inl kn)), (v4, .inl (g.2.1 1, 4, .inl mu)), (v5, .inl (g.2.1 1, 4, .inl mn)), (v10, .inl (g.2.1 1, 175, .inl K))] (fun r u => r = (F_X11_reach1 zp zd zt zm cA pe de kn mu mn K y z t).1 ∧ u = [(h0, .inr (11, [.ref a0, .ref a1, .ref a2, .ref a3, .ref a4, .ref a5, .ref a6, .ref a7, .ref a8, .ref a9, .ref a10, .int (nI nv), .int (nI np), .int cc])), (a1, .inl (g.2.1 4, 10, .inr (.inr (.inr (.inr fA))))), (a4, .inr (7, [.ref zr, .int ((F_X11_reach1 zp zd zt zm cA pe de kn mu mn K y z t).2.1), .int ((F_X11_reach1 zp zd zt zm cA pe de kn mu mn K y z t).2.2.1), .int ((F_X11_reach1 zp zd zt zm cA pe de kn mu mn K y z t).2.2.2.1), .int ((F_X11_reach1 zp zd zt zm cA pe de kn mu mn K y z t).2.2.2.2.1), .ref zc, .ref ze1, .ref ze2, .ref ze3, .ref ze4, .ref ze5, .ref ze6, .int zi0, .int zi1, .int zi2, .int zi3, .int zi4])), (zc, .inl (g.2.1 1, 175, .inl ((F_X11_reach1 zp zd zt zm cA pe de kn mu mn K y z t).2.2.2.2.2))), (v, .inr (10, [.int (nI pe), .int lc, .int de, .ref v3, .ref v4, .ref v5, .ref v6, .ref v7, .ref v8, .ref v9, .ref v10, .ref v11, .ref v12, .ref v13, .int gl, .ref v15])), (v3, .inl (g.2.1 1, 4, .inl kn)), (v4, .inl (g.2.1 1, 4, .inl mu)), (v5, .inl (g.2.1 1, 4, .inl mn)), (v10, .inl (g.2.1 1, 175, .inl K))]) := by
  refine MetI.of (own := RX11) rfl (by decide) (Nat.le_of_ble_eq_true rfl) ?_
  intro p e s m below meth c A ls args Q hQ X hr hin hW hl
  have hx := X.1
  have hb := X.2.1
  have hl : lv_has ls 6 [(0, .ref h0), (1, .int (nI i)), (2, .int y), (3, .int z), (4, .int t)] := hl
  refine lv_aload_n (pc := 0) hx hb dX11_reach_0 rfl (lv_at hl 0 rfl) ?_
  refine lv_iload_n (pc := 1) hx hb dX11_reach_1 rfl (lv_at hl 1 rfl) ?_
  refine c_Vq (pc := 2) (As := [.int (nI i)]) (rest := []) (wr := [(a4, .inr (7, [.ref zr, .int zp, .int zd, .int zt, .int zm, .ref zc, .ref ze1, .ref ze2, .ref ze3, .ref ze4, .ref ze5, .ref ze6, .int zi0, .int zi1, .int zi2, .int zi3, .int zi4])), (zc, .inl (g.2.1 1, 175, .inl cA)), (v, .inr (10, [.int (nI pe), .int lc, .int de, .ref v3, .ref v4, .ref v5, .ref v6, .ref v7, .ref v8, .ref v9, .ref v10, .ref v11, .ref v12, .ref v13, .int gl, .ref v15])), (v3, .inl (g.2.1 1, 4, .inl kn)), (v4, .inl (g.2.1 1, 4, .inl mu)), (v5, .inl (g.2.1 1, 4, .inl mn)), (v10, .inl (g.2.1 1, 175, .inl K))]) X hW 0 ciX11 rfl (C_X11_valleyAt1 l g h0 a0 a1 a2 a3 a4 a5 a6 a7 a8 a9 a10 nv np cc fA i v (by omega) (by omega) hA) vX11_101 [0, 1] [2, 3, 4, 5, 6, 7, 8] rfl rfl rfl rfl rfl rfl hl.1 rfl (Nat.le_of_ble_eq_true rfl) ⟨Nat.le_of_ble_eq_true rfl, Nat.le_of_ble_eq_true rfl⟩ ⟨Nat.le_of_ble_eq_true rfl, Nat.le_of_ble_eq_true rfl⟩ dX11_reach_2 (fun r1 u9 H locs hq hW => ?_)
  obtain ⟨rfl, rfl⟩ := hq
  have hW : WD g A s _ _ [(a4, .inr (7, [.ref zr, .int zp, .int zd, .int zt, .int zm, .ref zc, .ref ze1, .ref ze2, .ref ze3, .ref ze4, .ref ze5, .ref ze6, .int zi0, .int zi1, .int zi2, .int zi3, .int zi4])), (zc, .inl (g.2.1 1, 175, .inl cA)), (v, .inr (10, [.int (nI pe), .int lc, .int de, .ref v3, .ref v4, .ref v5, .ref v6, .ref v7, .ref v8, .ref v9, .ref v10, .ref v11, .ref v12, .ref v13, .int gl, .ref v15])), (v3, .inl (g.2.1 1, 4, .inl kn)), (v4, .inl (g.2.1 1, 4, .inl mu)), (v5, .inl (g.2.1 1, 4, .inl mn)), (v10, .inl (g.2.1 1, 175, .inl K)), (h0, .inr (11, [.ref a0, .ref a1, .ref a2, .ref a3, .ref a4, .ref a5, .ref a6, .ref a7, .ref a8, .ref a9, .ref a10, .int (nI nv), .int (nI np), .int cc])), (a1, .inl (g.2.1 4, 10, .inr (.inr (.inr (.inr fA)))))] := hW
  refine lv_astore (lv' := [(5, .ref v), (0, .ref h0), (1, .int (nI i)), (2, .int y), (3, .int z), (4, .int t)]) (pc := 5) hx hb dX11_reach_5 hl (by decide) rfl (fun ls hl => ?_)
  refine lv_aload (pc := 7) hx hb dX11_reach_7 (lv_at hl 0 rfl) ?_
  refine lv_ifnull (pc := 9) hx hb dX11_reach_9 ?_
  refine lv_iload_n (pc := 12) hx hb dX11_reach_12 rfl (lv_at hl 3 rfl) ?_
  refine c_Si (pc := 13) (As := [.int y]) (rest := []) (wr := [(a4, .inr (7, [.ref zr, .int zp, .int zd, .int zt, .int zm, .ref zc, .ref ze1, .ref ze2, .ref ze3, .ref ze4, .ref ze5, .ref ze6, .int zi0, .int zi1, .int zi2, .int zi3, .int zi4])), (zc, .inl (g.2.1 1, 175, .inl cA)), (v, .inr (10, [.int (nI pe), .int lc, .int de, .ref v3, .ref v4, .ref v5, .ref v6, .ref v7, .ref v8, .ref v9, .ref v10, .ref v11, .ref v12, .ref v13, .int gl, .ref v15])), (v3, .inl (g.2.1 1, 4, .inl kn)), (v4, .inl (g.2.1 1, 4, .inl mu)), (v5, .inl (g.2.1 1, 4, .inl mn)), (v10, .inl (g.2.1 1, 175, .inl K)), (h0, .inr (11, [.ref a0, .ref a1, .ref a2, .ref a3, .ref a4, .ref a5, .ref a6, .ref a7, .ref a8, .ref a9, .ref a10, .int (nI nv), .int (nI np), .int cc])), (a1, .inl (g.2.1 4, 10, .inr (.inr (.inr (.inr fA)))))]) X hW (K_X11_isNews l g y) vX11_208 [] [0, 1, 2, 3, 4, 5, 6, 7, 8] rfl rfl rfl rfl rfl rfl hl.1 rfl (Nat.le_of_ble_eq_true rfl) ⟨Nat.le_of_ble_eq_true rfl, Nat.le_of_ble_eq_true rfl⟩ ⟨Nat.le_of_ble_eq_true rfl, Nat.le_of_ble_eq_true rfl⟩ dX11_reach_13 (fun r2 u9 H locs hq hW => ?_)
  obtain ⟨rfl, rfl⟩ := hq
  have hW : WD g A s _ _ [(a4, .inr (7, [.ref zr, .int zp, .int zd, .int zt, .int zm, .ref zc, .ref ze1, .ref ze2, .ref ze3, .ref ze4, .ref ze5, .ref ze6, .int zi0, .int zi1, .int zi2, .int zi3, .int zi4])), (zc, .inl (g.2.1 1, 175, .inl cA)), (v, .inr (10, [.int (nI pe), .int lc, .int de, .ref v3, .ref v4, .ref v5, .ref v6, .ref v7, .ref v8, .ref v9, .ref v10, .ref v11, .ref v12, .ref v13, .int gl, .ref v15])), (v3, .inl (g.2.1 1, 4, .inl kn)), (v4, .inl (g.2.1 1, 4, .inl mu)), (v5, .inl (g.2.1 1, 4, .inl mn)), (v10, .inl (g.2.1 1, 175, .inl K)), (h0, .inr (11, [.ref a0, .ref a1, .ref a2, .ref a3, .ref a4, .ref a5, .ref a6, .ref a7, .ref a8, .ref a9, .ref a10, .int (nI nv), .int (nI np), .int cc])), (a1, .inl (g.2.1 4, 10, .inr (.inr (.inr (.inr fA)))))] := hW
  refine lv_if_eq (tgt := 40) (pc := 16) hx hb dX11_reach_16 rfl (fun c3 => ?_) (fun c3 => ?_)
  · refine lv_iconst (v := (-1)) (pc := 40) hx hb dX11_reach_40 (by decide) ?_
    have hF : F_X11_reach1 zp zd zt zm cA pe de kn mu mn K y z t = ((-1 : Int32), zp, zd, zt, zm, cA) := show F_X11_reach1 zp zd zt zm cA pe de kn mu mn K y z t = ((-1 : Int32), zp, zd, zt, zm, cA) from by rw [F_X11_reach1, if_pos c3]
    exact e_i (u := [(h0, .inr (11, [.ref a0, .ref a1, .ref a2, .ref a3, .ref a4, .ref a5, .ref a6, .ref a7, .ref a8, .ref a9, .ref a10, .int (nI nv), .int (nI np), .int cc])), (a1, .inl (g.2.1 4, 10, .inr (.inr (.inr (.inr fA))))), (a4, .inr (7, [.ref zr, .int zp, .int zd, .int zt, .int zm, .ref zc, .ref ze1, .ref ze2, .ref ze3, .ref ze4, .ref ze5, .ref ze6, .int zi0, .int zi1, .int zi2, .int zi3, .int zi4])), (zc, .inl (g.2.1 1, 175, .inl cA)), (v, .inr (10, [.int (nI pe), .int lc, .int de, .ref v3, .ref v4, .ref v5, .ref v6, .ref v7, .ref v8, .ref v9, .ref v10, .ref v11, .ref v12, .ref v13, .int gl, .ref v15])), (v3, .inl (g.2.1 1, 4, .inl kn)), (v4, .inl (g.2.1 1, 4, .inl mu)), (v5, .inl (g.2.1 1, 4, .inl mn)), (v10, .inl (g.2.1 1, 175, .inl K))]) X hQ hr (hW) [7, 8, 0, 1, 2, 3, 4, 5, 6] rfl rfl (⟨(congrArg Prod.fst hF).symm, by rw [hF]⟩) ⟨Nat.le_of_ble_eq_true rfl, Nat.le_of_ble_eq_true rfl⟩ dX11_reach_41
  · have hnw := hn_at (show ¬ F_X11_isNews y = 0 from c3)
    have hnw2 := hnw.2
    rw [hnw.1] at hl
    refine lv_iload_n (pc := 19) hx hb dX11_reach_19 rfl (lv_at hl 4 rfl) ?_
    refine c_Si (pc := 20) (As := [.int z]) (rest := []) (wr := [(a4, .inr (7, [.ref zr, .int zp, .int zd, .int zt, .int zm, .ref zc, .ref ze1, .ref ze2, .ref ze3, .ref ze4, .ref ze5, .ref ze6, .int zi0, .int zi1, .int zi2, .int zi3, .int zi4])), (zc, .inl (g.2.1 1, 175, .inl cA)), (v, .inr (10, [.int (nI pe), .int lc, .int de, .ref v3, .ref v4, .ref v5, .ref v6, .ref v7, .ref v8, .ref v9, .ref v10, .ref v11, .ref v12, .ref v13, .int gl, .ref v15])), (v3, .inl (g.2.1 1, 4, .inl kn)), (v4, .inl (g.2.1 1, 4, .inl mu)), (v5, .inl (g.2.1 1, 4, .inl mn)), (v10, .inl (g.2.1 1, 175, .inl K)), (h0, .inr (11, [.ref a0, .ref a1, .ref a2, .ref a3, .ref a4, .ref a5, .ref a6, .ref a7, .ref a8, .ref a9, .ref a10, .int (nI nv), .int (nI np), .int cc])), (a1, .inl (g.2.1 4, 10, .inr (.inr (.inr (.inr fA)))))]) X hW (K_X11_isHour l g z) vX11_134 [] [0, 1, 2, 3, 4, 5, 6, 7, 8] rfl rfl rfl rfl rfl rfl hl.1 rfl (Nat.le_of_ble_eq_true rfl) ⟨Nat.le_of_ble_eq_true rfl, Nat.le_of_ble_eq_true rfl⟩ ⟨Nat.le_of_ble_eq_true rfl, Nat.le_of_ble_eq_true rfl⟩ dX11_reach_20 (fun r6 u9 H locs hq hW => ?_)
    obtain ⟨rfl, rfl⟩ := hq
    have hW : WD g A s _ _ [(a4, .inr (7, [.ref zr, .int zp, .int zd, .int zt, .int zm, .ref zc, .ref ze1, .ref ze2, .ref ze3, .ref ze4, .ref ze5, .ref ze6, .int zi0, .int zi1, .int zi2, .int zi3, .int zi4])), (zc, .inl (g.2.1 1, 175, .inl cA)), (v, .inr (10, [.int (nI pe), .int lc, .int de, .ref v3, .ref v4, .ref v5, .ref v6, .ref v7, .ref v8, .ref v9, .ref v10, .ref v11, .ref v12, .ref v13, .int gl, .ref v15])), (v3, .inl (g.2.1 1, 4, .inl kn)), (v4, .inl (g.2.1 1, 4, .inl mu)), (v5, .inl (g.2.1 1, 4, .inl mn)), (v10, .inl (g.2.1 1, 175, .inl K)), (h0, .inr (11, [.ref a0, .ref a1, .ref a2, .ref a3, .ref a4, .ref a5, .ref a6, .ref a7, .ref a8, .ref a9, .ref a10, .int (nI nv), .int (nI np), .int cc])), (a1, .inl (g.2.1 4, 10, .inr (.inr (.inr (.inr fA)))))] := hW
    refine lv_if_eq (tgt := 40) (pc := 23) hx hb dX11_reach_23 rfl (fun c7 => ?_) (fun c7 => ?_)
    · refine lv_iconst (v := (-1)) (pc := 40) hx hb dX11_reach_40 (by decide) ?_
      have hF : F_X11_reach1 zp zd zt zm cA pe de kn mu mn K y z t = ((-1 : Int32), zp, zd, zt, zm, cA) := show F_X11_reach1 zp zd zt zm cA pe de kn mu mn K y z t = ((-1 : Int32), zp, zd, zt, zm, cA) from by rw [F_X11_reach1, if_neg c3, if_pos c7]
      exact e_i (u := [(h0, .inr (11, [.ref a0, .ref a1, .ref a2, .ref a3, .ref a4, .ref a5, .ref a6, .ref a7, .ref a8, .ref a9, .ref a10, .int (nI nv), .int (nI np), .int cc])), (a1, .inl (g.2.1 4, 10, .inr (.inr (.inr (.inr fA))))), (a4, .inr (7, [.ref zr, .int zp, .int zd, .int zt, .int zm, .ref zc, .ref ze1, .ref ze2, .ref ze3, .ref ze4, .ref ze5, .ref ze6, .int zi0, .int zi1, .int zi2, .int zi3, .int zi4])), (zc, .inl (g.2.1 1, 175, .inl cA)), (v, .inr (10, [.int (nI pe), .int lc, .int de, .ref v3, .ref v4, .ref v5, .ref v6, .ref v7, .ref v8, .ref v9, .ref v10, .ref v11, .ref v12, .ref v13, .int gl, .ref v15])), (v3, .inl (g.2.1 1, 4, .inl kn)), (v4, .inl (g.2.1 1, 4, .inl mu)), (v5, .inl (g.2.1 1, 4, .inl mn)), (v10, .inl (g.2.1 1, 175, .inl K))]) X hQ hr (hW) [7, 8, 0, 1, 2, 3, 4, 5, 6] rfl rfl (⟨(congrArg Prod.fst hF).symm, by rw [hF]⟩) ⟨Nat.le_of_ble_eq_true rfl, Nat.le_of_ble_eq_true rfl⟩ dX11_reach_41
    · have hho := hr_at c7
      have hho1 := hho.2.1
      have hho2 := hho.2.2
      rw [hho.1] at hl
      refine lv_iload (pc := 26) hx hb dX11_reach_26 (lv_at hl 5 rfl) ?_
      refine lv_if_lt (tgt := 40) (pc := 28) hx hb dX11_reach_28 rfl (fun c10 => ?_) (fun c10 => ?_)
      · refine lv_iconst (v := (-1)) (pc := 40) hx hb dX11_reach_40 (by decide) ?_
        have hF : F_X11_reach1 zp zd zt zm cA pe de kn mu mn K y z t = ((-1 : Int32), zp, zd, zt, zm, cA) := show F_X11_reach1 zp zd zt zm cA pe de kn mu mn K y z t = ((-1 : Int32), zp, zd, zt, zm, cA) from by rw [F_X11_reach1, if_neg c3, if_neg c7, if_pos c10]
        exact e_i (u := [(h0, .inr (11, [.ref a0, .ref a1, .ref a2, .ref a3, .ref a4, .ref a5, .ref a6, .ref a7, .ref a8, .ref a9, .ref a10, .int (nI nv), .int (nI np), .int cc])), (a1, .inl (g.2.1 4, 10, .inr (.inr (.inr (.inr fA))))), (a4, .inr (7, [.ref zr, .int zp, .int zd, .int zt, .int zm, .ref zc, .ref ze1, .ref ze2, .ref ze3, .ref ze4, .ref ze5, .ref ze6, .int zi0, .int zi1, .int zi2, .int zi3, .int zi4])), (zc, .inl (g.2.1 1, 175, .inl cA)), (v, .inr (10, [.int (nI pe), .int lc, .int de, .ref v3, .ref v4, .ref v5, .ref v6, .ref v7, .ref v8, .ref v9, .ref v10, .ref v11, .ref v12, .ref v13, .int gl, .ref v15])), (v3, .inl (g.2.1 1, 4, .inl kn)), (v4, .inl (g.2.1 1, 4, .inl mu)), (v5, .inl (g.2.1 1, 4, .inl mn)), (v10, .inl (g.2.1 1, 175, .inl K))]) X hQ hr (hW) [7, 8, 0, 1, 2, 3, 4, 5, 6] rfl rfl (⟨(congrArg Prod.fst hF).symm, by rw [hF]⟩) ⟨Nat.le_of_ble_eq_true rfl, Nat.le_of_ble_eq_true rfl⟩ dX11_reach_41
      · have q31 := c10
        refine lv_iload (pc := 31) hx hb dX11_reach_31 (lv_at hl 5 rfl) ?_
        refine lv_bipush (v := 25) (pc := 33) hx hb dX11_reach_33 (by decide) ?_
        refine lv_iload_n (pc := 35) hx hb dX11_reach_35 rfl (lv_at hl 4 rfl) ?_
        refine lv_isub (pc := 36) hx hb dX11_reach_36 ?_
        refine lv_topi (fun v13 ev13 => ?_)
        obtain rfl : v13 = nI (25 - (tN z)) := ev13.trans (pk_sub (a := 25) (b := (tN z)) (by omega))
        refine lv_icmp_le (tgt := 42) (pc := 37) hx hb dX11_reach_37 rfl (fun c14 => ?_) (fun c14 => ?_)
        · obtain ⟨ht1, -, ht2⟩ := bn_at (x := t) (lo := 0) (hi := 25 - tN z) (by omega) (Int32.not_lt.mp q31) c14
          rw [ht1] at hl
          refine lv_aload_n (pc := 42) hx hb dX11_reach_42 rfl (lv_at hl 1 rfl) ?_
          refine r_get X hW 7 ciX11 4 rfl (by decide) m_357 rfl rfl dX11_reach_43 ?_
          refine lv_aload (pc := 46) hx hb dX11_reach_46 (lv_at hl 0 rfl) ?_
          refine lv_iload_n (pc := 48) hx hb dX11_reach_48 rfl (lv_at hl 3 rfl) ?_
          refine c_Vv (pc := 49) (As := [.ref v, .int (nI (tN y))]) (rest := []) (wr := [(v3, .inl (g.2.1 1, 4, .inl kn)), (h0, .inr (11, [.ref a0, .ref a1, .ref a2, .ref a3, .ref a4, .ref a5, .ref a6, .ref a7, .ref a8, .ref a9, .ref a10, .int (nI nv), .int (nI np), .int cc])), (a1, .inl (g.2.1 4, 10, .inr (.inr (.inr (.inr fA)))))]) X hW 0 ciX7 rfl (K_X7_prepare l g a4 zr zc ze1 ze2 ze3 ze4 ze5 ze6 zp zd zt zm zi0 zi1 zi2 zi3 zi4 cA v v3 v4 v5 v6 v7 v8 v9 v10 v11 v12 v13 v15 pe lc de gl mu mn K (tN y) (by omega) (by omega)) vX11_211 [0, 1, 2, 4, 5, 6] [3, 7, 8] rfl rfl rfl rfl rfl rfl hl.1 rfl (Nat.le_of_ble_eq_true rfl) ⟨Nat.le_of_ble_eq_true rfl, Nat.le_of_ble_eq_true rfl⟩ ⟨Nat.le_of_ble_eq_true rfl, Nat.le_of_ble_eq_true rfl⟩ dX11_reach_49 (fun u9 H locs hq hW => ?_)
          obtain rfl := hq
          have hW : WD g A s _ _ [(v3, .inl (g.2.1 1, 4, .inl kn)), (h0, .inr (11, [.ref a0, .ref a1, .ref a2, .ref a3, .ref a4, .ref a5, .ref a6, .ref a7, .ref a8, .ref a9, .ref a10, .int (nI nv), .int (nI np), .int cc])), (a1, .inl (g.2.1 4, 10, .inr (.inr (.inr (.inr fA))))), (a4, .inr (7, [.ref zr, .int (nI pe), .int ((F_X7_prepare cA pe de mu mn K (tN y)).1), .int ((F_X7_prepare cA pe de mu mn K (tN y)).2.1), .int ((F_X7_prepare cA pe de mu mn K (tN y)).2.2.1), .ref zc, .ref ze1, .ref ze2, .ref ze3, .ref ze4, .ref ze5, .ref ze6, .int zi0, .int zi1, .int zi2, .int zi3, .int zi4])), (zc, .inl (g.2.1 1, 175, .inl ((F_X7_prepare cA pe de mu mn K (tN y)).2.2.2))), (v, .inr (10, [.int (nI pe), .int lc, .int de, .ref v3, .ref v4, .ref v5, .ref v6, .ref v7, .ref v8, .ref v9, .ref v10, .ref v11, .ref v12, .ref v13, .int gl, .ref v15])), (v4, .inl (g.2.1 1, 4, .inl mu)), (v5, .inl (g.2.1 1, 4, .inl mn)), (v10, .inl (g.2.1 1, 175, .inl K))] := hW
          refine lv_aload_n (pc := 52) hx hb dX11_reach_52 rfl (lv_at hl 1 rfl) ?_
          refine r_get X hW 1 ciX11 4 rfl (by decide) m_357 rfl rfl dX11_reach_53 ?_
          refine lv_aload (pc := 56) hx hb dX11_reach_56 (lv_at hl 0 rfl) ?_
          refine r_getN X hW 5 ciX10 3 rfl (by decide) m_293 rfl rfl dX11_reach_58 ?_
          refine lv_iload_n (pc := 61) hx hb dX11_reach_61 rfl (lv_at hl 3 rfl) ?_
          refine r_iald X hW 0 rfl (vp_in_nI (by omega) (by decide)) dX11_reach_62 ?_
          refine lv_topi (fun v16 ev16 => ?_)
          obtain rfl : v16 = kn (tN y) := ev16.trans (by rw [nI_clamp (by omega)])
          refine lv_iload_n (pc := 63) hx hb dX11_reach_63 rfl (lv_at hl 4 rfl) ?_
          refine lv_iload (pc := 64) hx hb dX11_reach_64 (lv_at hl 5 rfl) ?_
          refine c_Vi (pc := 66) (As := [.int (kn (tN y)), .int (nI (tN z)), .int (nI (tN t))]) (rest := []) (wr := [(v3, .inl (g.2.1 1, 4, .inl kn)), (h0, .inr (11, [.ref a0, .ref a1, .ref a2, .ref a3, .ref a4, .ref a5, .ref a6, .ref a7, .ref a8, .ref a9, .ref a10, .int (nI nv), .int (nI np), .int cc])), (a1, .inl (g.2.1 4, 10, .inr (.inr (.inr (.inr fA))))), (v, .inr (10, [.int (nI pe), .int lc, .int de, .ref v3, .ref v4, .ref v5, .ref v6, .ref v7, .ref v8, .ref v9, .ref v10, .ref v11, .ref v12, .ref v13, .int gl, .ref v15])), (v4, .inl (g.2.1 1, 4, .inl mu)), (v5, .inl (g.2.1 1, 4, .inl mn)), (v10, .inl (g.2.1 1, 175, .inl K))]) X hW 3 ciX7 rfl (K_X7_upperEnd l g a4 zr zc ze1 ze2 ze3 ze4 ze5 ze6 pe ((F_X7_prepare cA pe de mu mn K (tN y)).1) ((F_X7_prepare cA pe de mu mn K (tN y)).2.1) ((F_X7_prepare cA pe de mu mn K (tN y)).2.2.1) zi0 zi1 zi2 zi3 zi4 ((F_X7_prepare cA pe de mu mn K (tN y)).2.2.2) (kn (tN y)) (tN z) (tN t) (by omega) (by omega)) vX11_227 [3, 4] [0, 1, 2, 5, 6, 7, 8] rfl rfl rfl rfl rfl rfl hl.1 rfl (Nat.le_of_ble_eq_true rfl) ⟨Nat.le_of_ble_eq_true rfl, Nat.le_of_ble_eq_true rfl⟩ ⟨Nat.le_of_ble_eq_true rfl, Nat.le_of_ble_eq_true rfl⟩ dX11_reach_66 (fun r17 u9 H locs hq hW => ?_)
          obtain ⟨rfl, rfl⟩ := hq
          have hW : WD g A s _ _ [(v3, .inl (g.2.1 1, 4, .inl kn)), (h0, .inr (11, [.ref a0, .ref a1, .ref a2, .ref a3, .ref a4, .ref a5, .ref a6, .ref a7, .ref a8, .ref a9, .ref a10, .int (nI nv), .int (nI np), .int cc])), (a1, .inl (g.2.1 4, 10, .inr (.inr (.inr (.inr fA))))), (v, .inr (10, [.int (nI pe), .int lc, .int de, .ref v3, .ref v4, .ref v5, .ref v6, .ref v7, .ref v8, .ref v9, .ref v10, .ref v11, .ref v12, .ref v13, .int gl, .ref v15])), (v4, .inl (g.2.1 1, 4, .inl mu)), (v5, .inl (g.2.1 1, 4, .inl mn)), (v10, .inl (g.2.1 1, 175, .inl K)), (a4, .inr (7, [.ref zr, .int (nI pe), .int ((F_X7_prepare cA pe de mu mn K (tN y)).1), .int ((F_X7_prepare cA pe de mu mn K (tN y)).2.1), .int ((F_X7_prepare cA pe de mu mn K (tN y)).2.2.1), .ref zc, .ref ze1, .ref ze2, .ref ze3, .ref ze4, .ref ze5, .ref ze6, .int zi0, .int zi1, .int zi2, .int zi3, .int zi4])), (zc, .inl (g.2.1 1, 175, .inl ((F_X7_prepare cA pe de mu mn K (tN y)).2.2.2)))] := hW
          have hF : F_X11_reach1 zp zd zt zm cA pe de kn mu mn K y z t = ((F_X7_upperEnd pe ((F_X7_prepare cA pe de mu mn K (tN y)).2.1) ((F_X7_prepare cA pe de mu mn K (tN y)).2.2.2) (kn (tN y)) (tN z) (tN t)), nI pe, ((F_X7_prepare cA pe de mu mn K (tN y)).1), ((F_X7_prepare cA pe de mu mn K (tN y)).2.1), ((F_X7_prepare cA pe de mu mn K (tN y)).2.2.1), ((F_X7_prepare cA pe de mu mn K (tN y)).2.2.2)) := show F_X11_reach1 zp zd zt zm cA pe de kn mu mn K y z t = ((F_X7_upperEnd pe ((F_X7_prepare cA pe de mu mn K (tN y)).2.1) ((F_X7_prepare cA pe de mu mn K (tN y)).2.2.2) (kn (tN y)) (tN z) (tN t)), nI pe, ((F_X7_prepare cA pe de mu mn K (tN y)).1), ((F_X7_prepare cA pe de mu mn K (tN y)).2.1), ((F_X7_prepare cA pe de mu mn K (tN y)).2.2.1), ((F_X7_prepare cA pe de mu mn K (tN y)).2.2.2)) from by rw [F_X11_reach1, if_neg c3, if_neg c7, if_neg c10, if_pos c14]
          exact e_i (u := [(h0, .inr (11, [.ref a0, .ref a1, .ref a2, .ref a3, .ref a4, .ref a5, .ref a6, .ref a7, .ref a8, .ref a9, .ref a10, .int (nI nv), .int (nI np), .int cc])), (a1, .inl (g.2.1 4, 10, .inr (.inr (.inr (.inr fA))))), (a4, .inr (7, [.ref zr, .int (nI pe), .int ((F_X7_prepare cA pe de mu mn K (tN y)).1), .int ((F_X7_prepare cA pe de mu mn K (tN y)).2.1), .int ((F_X7_prepare cA pe de mu mn K (tN y)).2.2.1), .ref zc, .ref ze1, .ref ze2, .ref ze3, .ref ze4, .ref ze5, .ref ze6, .int zi0, .int zi1, .int zi2, .int zi3, .int zi4])), (zc, .inl (g.2.1 1, 175, .inl ((F_X7_prepare cA pe de mu mn K (tN y)).2.2.2))), (v, .inr (10, [.int (nI pe), .int lc, .int de, .ref v3, .ref v4, .ref v5, .ref v6, .ref v7, .ref v8, .ref v9, .ref v10, .ref v11, .ref v12, .ref v13, .int gl, .ref v15])), (v3, .inl (g.2.1 1, 4, .inl kn)), (v4, .inl (g.2.1 1, 4, .inl mu)), (v5, .inl (g.2.1 1, 4, .inl mn)), (v10, .inl (g.2.1 1, 175, .inl K))]) X hQ hr (hW) [1, 2, 7, 8, 3, 0, 4, 5, 6] rfl rfl (⟨(congrArg Prod.fst hF).symm, by rw [hF]⟩) ⟨Nat.le_of_ble_eq_true rfl, Nat.le_of_ble_eq_true rfl⟩ dX11_reach_69
        · refine lv_iconst (v := (-1)) (pc := 40) hx hb dX11_reach_40 (by decide) ?_
          have hF : F_X11_reach1 zp zd zt zm cA pe de kn mu mn K y z t = ((-1 : Int32), zp, zd, zt, zm, cA) := show F_X11_reach1 zp zd zt zm cA pe de kn mu mn K y z t = ((-1 : Int32), zp, zd, zt, zm, cA) from by rw [F_X11_reach1, if_neg c3, if_neg c7, if_neg c10, if_neg c14]
          exact e_i (u := [(h0, .inr (11, [.ref a0, .ref a1, .ref a2, .ref a3, .ref a4, .ref a5, .ref a6, .ref a7, .ref a8, .ref a9, .ref a10, .int (nI nv), .int (nI np), .int cc])), (a1, .inl (g.2.1 4, 10, .inr (.inr (.inr (.inr fA))))), (a4, .inr (7, [.ref zr, .int zp, .int zd, .int zt, .int zm, .ref zc, .ref ze1, .ref ze2, .ref ze3, .ref ze4, .ref ze5, .ref ze6, .int zi0, .int zi1, .int zi2, .int zi3, .int zi4])), (zc, .inl (g.2.1 1, 175, .inl cA)), (v, .inr (10, [.int (nI pe), .int lc, .int de, .ref v3, .ref v4, .ref v5, .ref v6, .ref v7, .ref v8, .ref v9, .ref v10, .ref v11, .ref v12, .ref v13, .int gl, .ref v15])), (v3, .inl (g.2.1 1, 4, .inl kn)), (v4, .inl (g.2.1 1, 4, .inl mu)), (v5, .inl (g.2.1 1, 4, .inl mn)), (v10, .inl (g.2.1 1, 175, .inl K))]) X hQ hr (hW) [7, 8, 0, 1, 2, 3, 4, 5, 6] rfl rfl (⟨(congrArg Prod.fst hF).symm, by rw [hF]⟩) ⟨Nat.le_of_ble_eq_true rfl, Nat.le_of_ble_eq_true rfl⟩ dX11_reach_41

def F_X12_isAsked (nv : Nat) (x : Int32) (y : Int32) : Int32 := if F_X12_isValley nv x = 0 then ((0 : Int32)) else (if F_X12_isNews y = 0 then ((0 : Int32)) else ((1 : Int32)))
set_option maxHeartbeats 4000000 in
set_option maxRecDepth 100000 in
theorem K_X12_isAsked (l : Launch) (g : GG) (h0 : Nat) (vs : List Value) (nv : Nat) (x : Int32) (y : Int32) (hlen : vs.length = 64) (h18_ : vs[18]? = some (.int (nI nv))) (hn : nv ≤ 10) : MetI l g yX12_isAsked cX12_isAsked 3 (some .boolean) 2 0 0 [.ref h0, .int x, .int y] [(h0, .inr (12, vs))] (fun r u => r = (F_X12_isAsked nv x y) ∧ u = [(h0, .inr (12, (vs.set 0 (.int 0))))]) := by
  refine MetI.of (own := RX12) rfl (by decide) (Nat.le_of_ble_eq_true rfl) ?_
  intro p e s m below meth c A ls args Q hQ X hr hin hW hl
  have hx := X.1
  have hb := X.2.1
  have hl : lv_has ls 3 [(0, .ref h0), (1, .int x), (2, .int y)] := hl
  refine lv_aload_n (pc := 0) hx hb dX12_isAsked_0 rfl (lv_at hl 0 rfl) ?_
  refine lv_iconst (v := 0) (pc := 1) hx hb dX12_isAsked_1 (by decide) ?_
  refine r_put (ws' := [(h0, .inr (12, (vs.set 0 (.int 0))))]) X hW 0 ciX12 0 rfl (by decide) m_1231 rfl rfl rfl rfl (sv_lt (by decide) hlen) rfl dX12_isAsked_2 (fun H locs hW => ?_)
  refine lv_aload_n (pc := 5) hx hb dX12_isAsked_5 rfl (lv_at hl 0 rfl) ?_
  refine lv_iload_n (pc := 6) hx hb dX12_isAsked_6 rfl (lv_at hl 1 rfl) ?_
  refine c_Vi (pc := 7) (As := [.int x]) (rest := []) (wr := []) X hW 0 ciX12 rfl (K_X12_isValley l g h0 (vs.set 0 (.int 0)) nv x (sv_len hlen) (sv_ne (k := 0) (by decide) h18_)) vX12_221 [0] [] rfl rfl rfl rfl rfl rfl hl.1 rfl (Nat.le_of_ble_eq_true rfl) ⟨Nat.le_of_ble_eq_true rfl, Nat.le_of_ble_eq_true rfl⟩ ⟨Nat.le_of_ble_eq_true rfl, Nat.le_of_ble_eq_true rfl⟩ dX12_isAsked_7 (fun r1 u9 H locs hq hW => ?_)
  obtain ⟨rfl, rfl⟩ := hq
  have hW : WD g A s _ _ [(h0, .inr (12, (vs.set 0 (.int 0))))] := hW
  refine lv_if_eq (tgt := 24) (pc := 10) hx hb dX12_isAsked_10 rfl (fun c2 => ?_) (fun c2 => ?_)
  · refine lv_iconst (v := 0) (pc := 24) hx hb dX12_isAsked_24 (by decide) ?_
    have hF : F_X12_isAsked nv x y = (0 : Int32) := show F_X12_isAsked nv x y = (0 : Int32) from by rw [F_X12_isAsked, if_pos c2]
    exact e_z (u := [(h0, .inr (12, (vs.set 0 (.int 0))))]) X hQ hr (hW) rfl [0] rfl rfl (⟨hF.symm, rfl⟩) ⟨Nat.le_of_ble_eq_true rfl, Nat.le_of_ble_eq_true rfl⟩ dX12_isAsked_25
  · refine lv_iload_n (pc := 13) hx hb dX12_isAsked_13 rfl (lv_at hl 2 rfl) ?_
    refine c_Si (pc := 14) (As := [.int y]) (rest := []) (wr := [(h0, .inr (12, (vs.set 0 (.int 0))))]) X hW (K_X12_isNews l g y) vX12_308 [] [0] rfl rfl rfl rfl rfl rfl hl.1 rfl (Nat.le_of_ble_eq_true rfl) ⟨Nat.le_of_ble_eq_true rfl, Nat.le_of_ble_eq_true rfl⟩ ⟨Nat.le_of_ble_eq_true rfl, Nat.le_of_ble_eq_true rfl⟩ dX12_isAsked_14 (fun r5 u9 H locs hq hW => ?_)
    obtain ⟨rfl, rfl⟩ := hq
    have hW : WD g A s _ _ [(h0, .inr (12, (vs.set 0 (.int 0))))] := hW
    refine lv_if_eq (tgt := 24) (pc := 17) hx hb dX12_isAsked_17 rfl (fun c6 => ?_) (fun c6 => ?_)
    · refine lv_iconst (v := 0) (pc := 24) hx hb dX12_isAsked_24 (by decide) ?_
      have hF : F_X12_isAsked nv x y = (0 : Int32) := show F_X12_isAsked nv x y = (0 : Int32) from by rw [F_X12_isAsked, if_neg c2, if_pos c6]
      exact e_z (u := [(h0, .inr (12, (vs.set 0 (.int 0))))]) X hQ hr (hW) rfl [0] rfl rfl (⟨hF.symm, rfl⟩) ⟨Nat.le_of_ble_eq_true rfl, Nat.le_of_ble_eq_true rfl⟩ dX12_isAsked_25
    · refine lv_iconst (v := 1) (pc := 20) hx hb dX12_isAsked_20 (by decide) ?_
      refine lv_goto (tgt := 25) (pc := 21) hx hb dX12_isAsked_21 rfl ?_
      have hF : F_X12_isAsked nv x y = (1 : Int32) := show F_X12_isAsked nv x y = (1 : Int32) from by rw [F_X12_isAsked, if_neg c2, if_neg c6]
      exact e_z (u := [(h0, .inr (12, (vs.set 0 (.int 0))))]) X hQ hr (hW) rfl [0] rfl rfl (⟨hF.symm, rfl⟩) ⟨Nat.le_of_ble_eq_true rfl, Nat.le_of_ble_eq_true rfl⟩ dX12_isAsked_25

theorem ia_at {x y : Int32} {nv : Nat} (hn : nv ≤ 10) (h : ¬ F_X12_isAsked nv x y = 0) : (x = nI (tN x) ∧ tN x < nv) ∧ (y = nI (tN y) ∧ tN y < 4) := by
  unfold F_X12_isAsked at h
  by_cases h1 : F_X12_isValley nv x = 0
  · rw [if_pos h1] at h; exact absurd rfl h
  · rw [if_neg h1] at h
    by_cases h2 : F_X12_isNews y = 0
    · rw [if_pos h2] at h; exact absurd rfl h
    · exact ⟨rv_at (by omega) h1, hn_at (show ¬ F_X11_isNews y = 0 from h2)⟩
def L1_X12_spreads (rA : Nat → Int32) (rB : Nat → Int32) (rF : Nat → Int32) (rT : Nat → Int32) (rW : Nat → Int32) (rO : Nat → Int32) (i : Nat) (se : Int32) (h : Int32) (ct : Int32) (fr : Int32) (j1 : Nat) (x7_1 : Int32) : Int32 := if F_X12_works rF rT rW (12 * i + j1) h = 0 then (x7_1) else (if (se >>> ((nI j1) &&& 31)) &&& (1 : Int32) = 1 then (if h < ct then (if (fr >>> ((rA (12 * i + j1)) &&& 31)) &&& (1 : Int32) = 1 then (if rO (12 * i + j1) = 0 then (if (fr >>> ((rB (12 * i + j1)) &&& 31)) &&& (1 : Int32) = 1 then ((x7_1 ||| ((1 : Int32) <<< ((rB (12 * i + j1)) &&& 31))) ||| ((1 : Int32) <<< ((rA (12 * i + j1)) &&& 31))) else (x7_1 ||| ((1 : Int32) <<< ((rB (12 * i + j1)) &&& 31)))) else (x7_1 ||| ((1 : Int32) <<< ((rB (12 * i + j1)) &&& 31)))) else (if rO (12 * i + j1) = 0 then (if (fr >>> ((rB (12 * i + j1)) &&& 31)) &&& (1 : Int32) = 1 then (x7_1 ||| ((1 : Int32) <<< ((rA (12 * i + j1)) &&& 31))) else (x7_1)) else (x7_1))) else (x7_1)) else (if (fr >>> ((rA (12 * i + j1)) &&& 31)) &&& (1 : Int32) = 1 then (if rO (12 * i + j1) = 0 then (if (fr >>> ((rB (12 * i + j1)) &&& 31)) &&& (1 : Int32) = 1 then ((x7_1 ||| ((1 : Int32) <<< ((rB (12 * i + j1)) &&& 31))) ||| ((1 : Int32) <<< ((rA (12 * i + j1)) &&& 31))) else (x7_1 ||| ((1 : Int32) <<< ((rB (12 * i + j1)) &&& 31)))) else (x7_1 ||| ((1 : Int32) <<< ((rB (12 * i + j1)) &&& 31)))) else (if rO (12 * i + j1) = 0 then (if (fr >>> ((rB (12 * i + j1)) &&& 31)) &&& (1 : Int32) = 1 then (x7_1 ||| ((1 : Int32) <<< ((rA (12 * i + j1)) &&& 31))) else (x7_1)) else (x7_1))))
def L1_X12_spread (rA : Nat → Int32) (rB : Nat → Int32) (rF : Nat → Int32) (rT : Nat → Int32) (rW : Nat → Int32) (rO : Nat → Int32) (i : Nat) (se : Int32) (h : Int32) (ct : Int32) (fr : Int32) (i0_ : Int32) : Nat → Int32
  | 0 => (i0_)
  | k_ + 1 => L1_X12_spreads rA rB rF rT rW rO i se h ct fr k_ (L1_X12_spread rA rB rF rT rW rO i se h ct fr i0_ k_)
def F_X12_spread (rA : Nat → Int32) (rB : Nat → Int32) (rF : Nat → Int32) (rT : Nat → Int32) (rW : Nat → Int32) (rO : Nat → Int32) (i : Nat) (lc : Nat) (se : Int32) (h : Int32) (ct : Int32) (fr : Int32) (nt : Int32) : Int32 := (L1_X12_spread rA rB rF rT rW rO i se h ct fr fr lc) &&& (nt ^^^ (-1 : Int32))
set_option maxHeartbeats 4000000 in
set_option maxRecDepth 100000 in
theorem K_X12_spread (l : Launch) (g : GG) (h0 : Nat) (vs : List Value) (b7 : Nat) (rL : Nat → Int32) (b12 : Nat) (rA : Nat → Int32) (b13 : Nat) (rB : Nat → Int32) (b14 : Nat) (rF : Nat → Int32) (b15 : Nat) (rT : Nat → Int32) (b16 : Nat) (rW : Nat → Int32) (b17 : Nat) (rO : Nat → Int32) (i : Nat) (lc : Nat) (se : Int32) (h : Int32) (ct : Int32) (fr : Int32) (nt : Int32) (hlen : vs.length = 64) (h7_ : vs[7]? = some (.ref b7)) (h12_ : vs[12]? = some (.ref b12)) (h13_ : vs[13]? = some (.ref b13)) (h14_ : vs[14]? = some (.ref b14)) (h15_ : vs[15]? = some (.ref b15)) (h16_ : vs[16]? = some (.ref b16)) (h17_ : vs[17]? = some (.ref b17)) (hi : i < 11) (hlc : lc ≤ 12) (hL : rL i = nI lc) : MetI l g yX12_spread cX12_spread 10 (some .int) 1 0 0 [.ref h0, .int (nI i), .int se, .int h, .int ct, .int fr, .int nt] [(h0, .inr (12, vs)), (b7, .inl (g.2.1 1, 11, .inl rL)), (b12, .inl (g.2.1 1, 132, .inl rA)), (b13, .inl (g.2.1 1, 132, .inl rB)), (b14, .inl (g.2.1 1, 132, .inl rF)), (b15, .inl (g.2.1 1, 132, .inl rT)), (b16, .inl (g.2.1 1, 132, .inl rW)), (b17, .inl (g.2.1 3, 132, .inl rO))] (fun r u => r = (F_X12_spread rA rB rF rT rW rO i lc se h ct fr nt) ∧ u = [(h0, .inr (12, vs)), (b7, .inl (g.2.1 1, 11, .inl rL)), (b12, .inl (g.2.1 1, 132, .inl rA)), (b13, .inl (g.2.1 1, 132, .inl rB)), (b14, .inl (g.2.1 1, 132, .inl rF)), (b15, .inl (g.2.1 1, 132, .inl rT)), (b16, .inl (g.2.1 1, 132, .inl rW)), (b17, .inl (g.2.1 3, 132, .inl rO))]) := by
  refine MetI.of (own := RX12) rfl (by decide) (Nat.le_of_ble_eq_true rfl) ?_
  intro p e s m below meth c A ls args Q hQ X hr hin hW hl
  have hx := X.1
  have hb := X.2.1
  have hl : lv_has ls 10 [(0, .ref h0), (1, .int (nI i)), (2, .int se), (3, .int h), (4, .int ct), (5, .int fr), (6, .int nt)] := hl
  refine lv_iload (pc := 0) hx hb dX12_spread_0 (lv_at hl 5 rfl) ?_
  refine lv_istore (lv' := [(7, .int fr), (0, .ref h0), (1, .int (nI i)), (2, .int se), (3, .int h), (4, .int ct), (5, .int fr), (6, .int nt)]) (pc := 2) hx hb dX12_spread_2 hl (by decide) rfl (fun ls hl => ?_)
  refine lv_iconst (v := 0) (pc := 4) hx hb dX12_spread_4 (by decide) ?_
  refine lv_istore (lv' := [(8, .int 0), (7, .int fr), (0, .ref h0), (1, .int (nI i)), (2, .int se), (3, .int h), (4, .int ct), (5, .int fr), (6, .int nt)]) (pc := 5) hx hb dX12_spread_5 hl (by decide) rfl (fun ls hl => ?_)
  have loop1 : ∀ (fu1 : Nat) (j1 : Nat) (x7_1 : Int32), (lc < fu1 + j1) → (j1 ≤ lc) → (x7_1 = L1_X12_spread rA rB rF rT rW rO i se h ct fr fr j1) → ∀ (H : Heap) (locs : List Loc) (ls : Array Slot), WD g A s H locs [(h0, .inr (12, vs)), (b7, .inl (g.2.1 1, 11, .inl rL)), (b12, .inl (g.2.1 1, 132, .inl rA)), (b13, .inl (g.2.1 1, 132, .inl rB)), (b14, .inl (g.2.1 1, 132, .inl rF)), (b15, .inl (g.2.1 1, 132, .inl rT)), (b16, .inl (g.2.1 1, 132, .inl rW)), (b17, .inl (g.2.1 3, 132, .inl rO))] → lv_has ls 10 [(8, .int (nI j1)), (7, .int x7_1), (0, .ref h0), (1, .int (nI i)), (2, .int se), (3, .int h), (4, .int ct), (5, .int fr), (6, .int nt)] → W p l e (RM 1 0 0) s m args below meth c H locs 0 0 Q (F0 m 7 ls []) := by
    intro fu1
    induction fu1 with
    | zero =>
      intro j1 x7_1 hm1 hj1 hst1
      exact absurd hm1 (by omega)
    | succ fu1 ih1 =>
      intro j1 x7_1 hm1 hj1 hst1 H locs ls hW hl
      refine lv_iload (pc := 7) hx hb dX12_spread_7 (lv_at hl 0 rfl) ?_
      refine lv_aload_n (pc := 9) hx hb dX12_spread_9 rfl (lv_at hl 2 rfl) ?_
      refine r_get X hW 0 ciX12 7 rfl (by decide) m_1238 rfl h7_ dX12_spread_10 ?_
      refine lv_iload_n (pc := 13) hx hb dX12_spread_13 rfl (lv_at hl 3 rfl) ?_
      refine r_iald X hW 1 rfl (vp_in_nI (by omega) (by decide)) dX12_spread_14 ?_
      refine lv_topi (fun v1 ev1 => ?_)
      obtain rfl : v1 = rL i := ev1.trans (by rw [nI_clamp (by omega)])
      rw [hL]
      refine lv_icmp_ge (tgt := 132) (pc := 15) hx hb dX12_spread_15 rfl (fun c2 => ?_) (fun c2 => ?_)
      · have h3 : lc ≤ j1 := (nI_leI (a := lc) (b := j1) (by omega) (by omega)).mp c2
        have hN1 : j1 = lc := by omega
        rw [hN1] at hst1
        subst hst1
        have hW : WD g A s _ _ [(h0, .inr (12, vs)), (b7, .inl (g.2.1 1, 11, .inl rL)), (b12, .inl (g.2.1 1, 132, .inl rA)), (b13, .inl (g.2.1 1, 132, .inl rB)), (b14, .inl (g.2.1 1, 132, .inl rF)), (b15, .inl (g.2.1 1, 132, .inl rT)), (b16, .inl (g.2.1 1, 132, .inl rW)), (b17, .inl (g.2.1 3, 132, .inl rO))] := hW
        refine lv_iload (pc := 132) hx hb dX12_spread_132 (lv_at hl 1 rfl) ?_
        refine lv_iload (pc := 134) hx hb dX12_spread_134 (lv_at hl 8 rfl) ?_
        refine lv_iconst (v := (-1)) (pc := 136) hx hb dX12_spread_136 (by decide) ?_
        refine lv_ixor (pc := 137) hx hb dX12_spread_137 ?_
        refine lv_iand (pc := 138) hx hb dX12_spread_138 ?_
        have hF : F_X12_spread rA rB rF rT rW rO i lc se h ct fr nt = (L1_X12_spread rA rB rF rT rW rO i se h ct fr fr lc) &&& (nt ^^^ (-1 : Int32)) := show F_X12_spread rA rB rF rT rW rO i lc se h ct fr nt = (L1_X12_spread rA rB rF rT rW rO i se h ct fr fr lc) &&& (nt ^^^ (-1 : Int32)) from rfl
        exact e_i (u := [(h0, .inr (12, vs)), (b7, .inl (g.2.1 1, 11, .inl rL)), (b12, .inl (g.2.1 1, 132, .inl rA)), (b13, .inl (g.2.1 1, 132, .inl rB)), (b14, .inl (g.2.1 1, 132, .inl rF)), (b15, .inl (g.2.1 1, 132, .inl rT)), (b16, .inl (g.2.1 1, 132, .inl rW)), (b17, .inl (g.2.1 3, 132, .inl rO))]) X hQ hr (hW) [0, 1, 2, 3, 4, 5, 6, 7] rfl rfl (⟨hF.symm, rfl⟩) ⟨Nat.le_of_ble_eq_true rfl, Nat.le_of_ble_eq_true rfl⟩ dX12_spread_139
      · have h4 : ¬ (lc ≤ j1) := fun q => c2 ((nI_leI (a := lc) (b := j1) (by omega) (by omega)).mpr q)
        refine lv_bipush (v := 12) (pc := 18) hx hb dX12_spread_18 (by decide) ?_
        refine lv_iload_n (pc := 20) hx hb dX12_spread_20 rfl (lv_at hl 3 rfl) ?_
        refine lv_imul (pc := 21) hx hb dX12_spread_21 ?_
        refine lv_topi (fun v5 ev5 => ?_)
        obtain rfl : v5 = nI (12 * i) := ev5.trans (pk_mul 12 i)
        refine lv_iload (pc := 22) hx hb dX12_spread_22 (lv_at hl 0 rfl) ?_
        refine lv_iadd (pc := 24) hx hb dX12_spread_24 ?_
        refine lv_topi (fun v6 ev6 => ?_)
        obtain rfl : v6 = nI (12 * i + j1) := ev6.trans (nI_add _ _)
        refine lv_istore (lv' := [(9, .int (nI (12 * i + j1))), (8, .int (nI j1)), (7, .int x7_1), (0, .ref h0), (1, .int (nI i)), (2, .int se), (3, .int h), (4, .int ct), (5, .int fr), (6, .int nt)]) (pc := 25) hx hb dX12_spread_25 hl (by decide) rfl (fun ls hl => ?_)
        refine lv_aload_n (pc := 27) hx hb dX12_spread_27 rfl (lv_at hl 3 rfl) ?_
        refine lv_iload (pc := 28) hx hb dX12_spread_28 (lv_at hl 0 rfl) ?_
        refine lv_iload_n (pc := 30) hx hb dX12_spread_30 rfl (lv_at hl 6 rfl) ?_
        refine c_Vi (pc := 31) (As := [.int (nI (12 * i + j1)), .int h]) (rest := []) (wr := [(b7, .inl (g.2.1 1, 11, .inl rL)), (b12, .inl (g.2.1 1, 132, .inl rA)), (b13, .inl (g.2.1 1, 132, .inl rB)), (b17, .inl (g.2.1 3, 132, .inl rO))]) X hW 0 ciX12 rfl (K_X12_works l g h0 vs b14 rF b15 rT b16 rW (12 * i + j1) h hlen h14_ h15_ h16_ (by omega)) vX12_234 [0, 4, 5, 6] [1, 2, 3, 7] rfl rfl rfl rfl rfl rfl hl.1 rfl (Nat.le_of_ble_eq_true rfl) ⟨Nat.le_of_ble_eq_true rfl, Nat.le_of_ble_eq_true rfl⟩ ⟨Nat.le_of_ble_eq_true rfl, Nat.le_of_ble_eq_true rfl⟩ dX12_spread_31 (fun r7 u9 H locs hq hW => ?_)
        obtain ⟨rfl, rfl⟩ := hq
        have hW : WD g A s _ _ [(b7, .inl (g.2.1 1, 11, .inl rL)), (b12, .inl (g.2.1 1, 132, .inl rA)), (b13, .inl (g.2.1 1, 132, .inl rB)), (b17, .inl (g.2.1 3, 132, .inl rO)), (h0, .inr (12, vs)), (b14, .inl (g.2.1 1, 132, .inl rF)), (b15, .inl (g.2.1 1, 132, .inl rT)), (b16, .inl (g.2.1 1, 132, .inl rW))] := hW
        refine lv_if_eq (tgt := 126) (pc := 34) hx hb dX12_spread_34 rfl (fun c8 => ?_) (fun c8 => ?_)
        · refine lv_iinc (v := nI (j1 + 1)) (lv' := [(8, .int (nI (j1 + 1))), (9, .int (nI (12 * i + j1))), (7, .int x7_1), (0, .ref h0), (1, .int (nI i)), (2, .int se), (3, .int h), (4, .int ct), (5, .int fr), (6, .int nt)]) (pc := 126) hx hb dX12_spread_126 hl (k := 1) rfl (nI_add j1 1) (by decide) rfl (fun ls hl => ?_)
          refine lv_goto (tgt := 7) (pc := 129) hx hb dX12_spread_129 rfl ?_
          have hW : WD g A s _ _ [(h0, .inr (12, vs)), (b7, .inl (g.2.1 1, 11, .inl rL)), (b12, .inl (g.2.1 1, 132, .inl rA)), (b13, .inl (g.2.1 1, 132, .inl rB)), (b14, .inl (g.2.1 1, 132, .inl rF)), (b15, .inl (g.2.1 1, 132, .inl rT)), (b16, .inl (g.2.1 1, 132, .inl rW)), (b17, .inl (g.2.1 3, 132, .inl rO))] := hW.pick [4, 0, 1, 2, 5, 6, 7, 3] rfl rfl
          exact ih1 (j1 + 1) x7_1 (by omega) (by omega) (by rw [L1_X12_spread, ← hst1]; exact (show L1_X12_spreads rA rB rF rT rW rO i se h ct fr j1 x7_1 = x7_1 from by rw [L1_X12_spreads, if_pos c8]).symm) _ _ _ hW (lv_sub hl [0, 2, 3, 4, 5, 6, 7, 8, 9] rfl)
        · refine lv_iload_n (pc := 37) hx hb dX12_spread_37 rfl (lv_at hl 5 rfl) ?_
          refine lv_iload (pc := 38) hx hb dX12_spread_38 (lv_at hl 1 rfl) ?_
          refine lv_ishr (pc := 40) hx hb dX12_spread_40 ?_
          refine lv_iconst (v := 1) (pc := 41) hx hb dX12_spread_41 (by decide) ?_
          refine lv_iand (pc := 42) hx hb dX12_spread_42 ?_
          refine lv_iconst (v := 1) (pc := 43) hx hb dX12_spread_43 (by decide) ?_
          refine lv_icmp_ne (tgt := 56) (pc := 44) hx hb dX12_spread_44 rfl (fun c11 => ?_) (fun c11 => ?_)
          · refine lv_iload (pc := 56) hx hb dX12_spread_56 (lv_at hl 8 rfl) ?_
            refine lv_aload_n (pc := 58) hx hb dX12_spread_58 rfl (lv_at hl 3 rfl) ?_
            refine r_get X hW 4 ciX12 12 rfl (by decide) m_1243 rfl h12_ dX12_spread_59 ?_
            refine lv_iload (pc := 62) hx hb dX12_spread_62 (lv_at hl 0 rfl) ?_
            refine r_iald X hW 1 rfl (vp_in_nI (by omega) (by decide)) dX12_spread_64 ?_
            refine lv_topi (fun v13 ev13 => ?_)
            obtain rfl : v13 = rA (12 * i + j1) := ev13.trans (by rw [nI_clamp (by omega)])
            refine lv_ishr (pc := 65) hx hb dX12_spread_65 ?_
            refine lv_iconst (v := 1) (pc := 66) hx hb dX12_spread_66 (by decide) ?_
            refine lv_iand (pc := 67) hx hb dX12_spread_67 ?_
            refine lv_iconst (v := 1) (pc := 68) hx hb dX12_spread_68 (by decide) ?_
            refine lv_icmp_ne (tgt := 86) (pc := 69) hx hb dX12_spread_69 rfl (fun c14 => ?_) (fun c14 => ?_)
            · refine lv_aload_n (pc := 86) hx hb dX12_spread_86 rfl (lv_at hl 3 rfl) ?_
              refine r_get X hW 4 ciX12 17 rfl (by decide) m_1248 rfl h17_ dX12_spread_87 ?_
              refine lv_iload (pc := 90) hx hb dX12_spread_90 (lv_at hl 0 rfl) ?_
              refine r_zald X hW 3 rfl (vp_in_nI (by omega) (by decide)) dX12_spread_92 ?_
              refine lv_topi (fun v16 ev16 => ?_)
              obtain rfl : v16 = rO (12 * i + j1) := ev16.trans (by rw [nI_clamp (by omega)])
              refine lv_if_ne (tgt := 126) (pc := 93) hx hb dX12_spread_93 rfl (fun c17 => ?_) (fun c17 => ?_)
              · refine lv_iinc (v := nI (j1 + 1)) (lv' := [(8, .int (nI (j1 + 1))), (9, .int (nI (12 * i + j1))), (7, .int x7_1), (0, .ref h0), (1, .int (nI i)), (2, .int se), (3, .int h), (4, .int ct), (5, .int fr), (6, .int nt)]) (pc := 126) hx hb dX12_spread_126 hl (k := 1) rfl (nI_add j1 1) (by decide) rfl (fun ls hl => ?_)
                refine lv_goto (tgt := 7) (pc := 129) hx hb dX12_spread_129 rfl ?_
                have hW : WD g A s _ _ [(h0, .inr (12, vs)), (b7, .inl (g.2.1 1, 11, .inl rL)), (b12, .inl (g.2.1 1, 132, .inl rA)), (b13, .inl (g.2.1 1, 132, .inl rB)), (b14, .inl (g.2.1 1, 132, .inl rF)), (b15, .inl (g.2.1 1, 132, .inl rT)), (b16, .inl (g.2.1 1, 132, .inl rW)), (b17, .inl (g.2.1 3, 132, .inl rO))] := hW.pick [4, 0, 1, 2, 5, 6, 7, 3] rfl rfl
                exact ih1 (j1 + 1) x7_1 (by omega) (by omega) (by rw [L1_X12_spread, ← hst1]; exact (show L1_X12_spreads rA rB rF rT rW rO i se h ct fr j1 x7_1 = x7_1 from by rw [L1_X12_spreads, if_neg c8, if_neg c11, if_neg c14, if_neg c17]).symm) _ _ _ hW (lv_sub hl [0, 2, 3, 4, 5, 6, 7, 8, 9] rfl)
              · refine lv_iload (pc := 96) hx hb dX12_spread_96 (lv_at hl 8 rfl) ?_
                refine lv_aload_n (pc := 98) hx hb dX12_spread_98 rfl (lv_at hl 3 rfl) ?_
                refine r_get X hW 4 ciX12 13 rfl (by decide) m_1244 rfl h13_ dX12_spread_99 ?_
                refine lv_iload (pc := 102) hx hb dX12_spread_102 (lv_at hl 0 rfl) ?_
                refine r_iald X hW 2 rfl (vp_in_nI (by omega) (by decide)) dX12_spread_104 ?_
                refine lv_topi (fun v20 ev20 => ?_)
                obtain rfl : v20 = rB (12 * i + j1) := ev20.trans (by rw [nI_clamp (by omega)])
                refine lv_ishr (pc := 105) hx hb dX12_spread_105 ?_
                refine lv_iconst (v := 1) (pc := 106) hx hb dX12_spread_106 (by decide) ?_
                refine lv_iand (pc := 107) hx hb dX12_spread_107 ?_
                refine lv_iconst (v := 1) (pc := 108) hx hb dX12_spread_108 (by decide) ?_
                refine lv_icmp_ne (tgt := 126) (pc := 109) hx hb dX12_spread_109 rfl (fun c21 => ?_) (fun c21 => ?_)
                · refine lv_iinc (v := nI (j1 + 1)) (lv' := [(8, .int (nI (j1 + 1))), (9, .int (nI (12 * i + j1))), (7, .int x7_1), (0, .ref h0), (1, .int (nI i)), (2, .int se), (3, .int h), (4, .int ct), (5, .int fr), (6, .int nt)]) (pc := 126) hx hb dX12_spread_126 hl (k := 1) rfl (nI_add j1 1) (by decide) rfl (fun ls hl => ?_)
                  refine lv_goto (tgt := 7) (pc := 129) hx hb dX12_spread_129 rfl ?_
                  have hW : WD g A s _ _ [(h0, .inr (12, vs)), (b7, .inl (g.2.1 1, 11, .inl rL)), (b12, .inl (g.2.1 1, 132, .inl rA)), (b13, .inl (g.2.1 1, 132, .inl rB)), (b14, .inl (g.2.1 1, 132, .inl rF)), (b15, .inl (g.2.1 1, 132, .inl rT)), (b16, .inl (g.2.1 1, 132, .inl rW)), (b17, .inl (g.2.1 3, 132, .inl rO))] := hW.pick [4, 0, 1, 2, 5, 6, 7, 3] rfl rfl
                  exact ih1 (j1 + 1) x7_1 (by omega) (by omega) (by rw [L1_X12_spread, ← hst1]; exact (show L1_X12_spreads rA rB rF rT rW rO i se h ct fr j1 x7_1 = x7_1 from by rw [L1_X12_spreads, if_neg c8, if_neg c11, if_neg c14, if_pos c17, if_neg c21]).symm) _ _ _ hW (lv_sub hl [0, 2, 3, 4, 5, 6, 7, 8, 9] rfl)
                · refine lv_iload (pc := 112) hx hb dX12_spread_112 (lv_at hl 2 rfl) ?_
                  refine lv_iconst (v := 1) (pc := 114) hx hb dX12_spread_114 (by decide) ?_
                  refine lv_aload_n (pc := 115) hx hb dX12_spread_115 rfl (lv_at hl 3 rfl) ?_
                  refine r_get X hW 4 ciX12 12 rfl (by decide) m_1243 rfl h12_ dX12_spread_116 ?_
                  refine lv_iload (pc := 119) hx hb dX12_spread_119 (lv_at hl 0 rfl) ?_
                  refine r_iald X hW 1 rfl (vp_in_nI (by omega) (by decide)) dX12_spread_121 ?_
                  refine lv_topi (fun v24 ev24 => ?_)
                  obtain rfl : v24 = rA (12 * i + j1) := ev24.trans (by rw [nI_clamp (by omega)])
                  refine lv_ishl (pc := 122) hx hb dX12_spread_122 ?_
                  refine lv_ior (pc := 123) hx hb dX12_spread_123 ?_
                  refine lv_istore (lv' := [(7, .int (x7_1 ||| ((1 : Int32) <<< ((rA (12 * i + j1)) &&& 31)))), (9, .int (nI (12 * i + j1))), (8, .int (nI j1)), (0, .ref h0), (1, .int (nI i)), (2, .int se), (3, .int h), (4, .int ct), (5, .int fr), (6, .int nt)]) (pc := 124) hx hb dX12_spread_124 hl (by decide) rfl (fun ls hl => ?_)
                  refine lv_iinc (v := nI (j1 + 1)) (lv' := [(8, .int (nI (j1 + 1))), (7, .int (x7_1 ||| ((1 : Int32) <<< ((rA (12 * i + j1)) &&& 31)))), (9, .int (nI (12 * i + j1))), (0, .ref h0), (1, .int (nI i)), (2, .int se), (3, .int h), (4, .int ct), (5, .int fr), (6, .int nt)]) (pc := 126) hx hb dX12_spread_126 hl (k := 2) rfl (nI_add j1 1) (by decide) rfl (fun ls hl => ?_)
                  refine lv_goto (tgt := 7) (pc := 129) hx hb dX12_spread_129 rfl ?_
                  have hW : WD g A s _ _ [(h0, .inr (12, vs)), (b7, .inl (g.2.1 1, 11, .inl rL)), (b12, .inl (g.2.1 1, 132, .inl rA)), (b13, .inl (g.2.1 1, 132, .inl rB)), (b14, .inl (g.2.1 1, 132, .inl rF)), (b15, .inl (g.2.1 1, 132, .inl rT)), (b16, .inl (g.2.1 1, 132, .inl rW)), (b17, .inl (g.2.1 3, 132, .inl rO))] := hW.pick [4, 0, 1, 2, 5, 6, 7, 3] rfl rfl
                  exact ih1 (j1 + 1) (x7_1 ||| ((1 : Int32) <<< ((rA (12 * i + j1)) &&& 31))) (by omega) (by omega) (by rw [L1_X12_spread, ← hst1]; exact (show L1_X12_spreads rA rB rF rT rW rO i se h ct fr j1 x7_1 = x7_1 ||| ((1 : Int32) <<< ((rA (12 * i + j1)) &&& 31)) from by rw [L1_X12_spreads, if_neg c8, if_neg c11, if_neg c14, if_pos c17, if_pos c21]).symm) _ _ _ hW (lv_sub hl [0, 1, 3, 4, 5, 6, 7, 8, 9] rfl)
            · refine lv_iload (pc := 72) hx hb dX12_spread_72 (lv_at hl 2 rfl) ?_
              refine lv_iconst (v := 1) (pc := 74) hx hb dX12_spread_74 (by decide) ?_
              refine lv_aload_n (pc := 75) hx hb dX12_spread_75 rfl (lv_at hl 3 rfl) ?_
              refine r_get X hW 4 ciX12 13 rfl (by decide) m_1244 rfl h13_ dX12_spread_76 ?_
              refine lv_iload (pc := 79) hx hb dX12_spread_79 (lv_at hl 0 rfl) ?_
              refine r_iald X hW 2 rfl (vp_in_nI (by omega) (by decide)) dX12_spread_81 ?_
              refine lv_topi (fun v26 ev26 => ?_)
              obtain rfl : v26 = rB (12 * i + j1) := ev26.trans (by rw [nI_clamp (by omega)])
              refine lv_ishl (pc := 82) hx hb dX12_spread_82 ?_
              refine lv_ior (pc := 83) hx hb dX12_spread_83 ?_
              refine lv_istore (lv' := [(7, .int (x7_1 ||| ((1 : Int32) <<< ((rB (12 * i + j1)) &&& 31)))), (9, .int (nI (12 * i + j1))), (8, .int (nI j1)), (0, .ref h0), (1, .int (nI i)), (2, .int se), (3, .int h), (4, .int ct), (5, .int fr), (6, .int nt)]) (pc := 84) hx hb dX12_spread_84 hl (by decide) rfl (fun ls hl => ?_)
              refine lv_aload_n (pc := 86) hx hb dX12_spread_86 rfl (lv_at hl 3 rfl) ?_
              refine r_get X hW 4 ciX12 17 rfl (by decide) m_1248 rfl h17_ dX12_spread_87 ?_
              refine lv_iload (pc := 90) hx hb dX12_spread_90 (lv_at hl 1 rfl) ?_
              refine r_zald X hW 3 rfl (vp_in_nI (by omega) (by decide)) dX12_spread_92 ?_
              refine lv_topi (fun v27 ev27 => ?_)
              obtain rfl : v27 = rO (12 * i + j1) := ev27.trans (by rw [nI_clamp (by omega)])
              refine lv_if_ne (tgt := 126) (pc := 93) hx hb dX12_spread_93 rfl (fun c28 => ?_) (fun c28 => ?_)
              · refine lv_iinc (v := nI (j1 + 1)) (lv' := [(8, .int (nI (j1 + 1))), (7, .int (x7_1 ||| ((1 : Int32) <<< ((rB (12 * i + j1)) &&& 31)))), (9, .int (nI (12 * i + j1))), (0, .ref h0), (1, .int (nI i)), (2, .int se), (3, .int h), (4, .int ct), (5, .int fr), (6, .int nt)]) (pc := 126) hx hb dX12_spread_126 hl (k := 2) rfl (nI_add j1 1) (by decide) rfl (fun ls hl => ?_)
                refine lv_goto (tgt := 7) (pc := 129) hx hb dX12_spread_129 rfl ?_
                have hW : WD g A s _ _ [(h0, .inr (12, vs)), (b7, .inl (g.2.1 1, 11, .inl rL)), (b12, .inl (g.2.1 1, 132, .inl rA)), (b13, .inl (g.2.1 1, 132, .inl rB)), (b14, .inl (g.2.1 1, 132, .inl rF)), (b15, .inl (g.2.1 1, 132, .inl rT)), (b16, .inl (g.2.1 1, 132, .inl rW)), (b17, .inl (g.2.1 3, 132, .inl rO))] := hW.pick [4, 0, 1, 2, 5, 6, 7, 3] rfl rfl
                exact ih1 (j1 + 1) (x7_1 ||| ((1 : Int32) <<< ((rB (12 * i + j1)) &&& 31))) (by omega) (by omega) (by rw [L1_X12_spread, ← hst1]; exact (show L1_X12_spreads rA rB rF rT rW rO i se h ct fr j1 x7_1 = x7_1 ||| ((1 : Int32) <<< ((rB (12 * i + j1)) &&& 31)) from by rw [L1_X12_spreads, if_neg c8, if_neg c11, if_pos c14, if_neg c28]).symm) _ _ _ hW (lv_sub hl [0, 1, 3, 4, 5, 6, 7, 8, 9] rfl)
              · refine lv_iload (pc := 96) hx hb dX12_spread_96 (lv_at hl 8 rfl) ?_
                refine lv_aload_n (pc := 98) hx hb dX12_spread_98 rfl (lv_at hl 3 rfl) ?_
                refine r_get X hW 4 ciX12 13 rfl (by decide) m_1244 rfl h13_ dX12_spread_99 ?_
                refine lv_iload (pc := 102) hx hb dX12_spread_102 (lv_at hl 1 rfl) ?_
                refine r_iald X hW 2 rfl (vp_in_nI (by omega) (by decide)) dX12_spread_104 ?_
                refine lv_topi (fun v31 ev31 => ?_)
                obtain rfl : v31 = rB (12 * i + j1) := ev31.trans (by rw [nI_clamp (by omega)])
                refine lv_ishr (pc := 105) hx hb dX12_spread_105 ?_
                refine lv_iconst (v := 1) (pc := 106) hx hb dX12_spread_106 (by decide) ?_
                refine lv_iand (pc := 107) hx hb dX12_spread_107 ?_
                refine lv_iconst (v := 1) (pc := 108) hx hb dX12_spread_108 (by decide) ?_
                refine lv_icmp_ne (tgt := 126) (pc := 109) hx hb dX12_spread_109 rfl (fun c32 => ?_) (fun c32 => ?_)
                · refine lv_iinc (v := nI (j1 + 1)) (lv' := [(8, .int (nI (j1 + 1))), (7, .int (x7_1 ||| ((1 : Int32) <<< ((rB (12 * i + j1)) &&& 31)))), (9, .int (nI (12 * i + j1))), (0, .ref h0), (1, .int (nI i)), (2, .int se), (3, .int h), (4, .int ct), (5, .int fr), (6, .int nt)]) (pc := 126) hx hb dX12_spread_126 hl (k := 2) rfl (nI_add j1 1) (by decide) rfl (fun ls hl => ?_)
                  refine lv_goto (tgt := 7) (pc := 129) hx hb dX12_spread_129 rfl ?_
                  have hW : WD g A s _ _ [(h0, .inr (12, vs)), (b7, .inl (g.2.1 1, 11, .inl rL)), (b12, .inl (g.2.1 1, 132, .inl rA)), (b13, .inl (g.2.1 1, 132, .inl rB)), (b14, .inl (g.2.1 1, 132, .inl rF)), (b15, .inl (g.2.1 1, 132, .inl rT)), (b16, .inl (g.2.1 1, 132, .inl rW)), (b17, .inl (g.2.1 3, 132, .inl rO))] := hW.pick [4, 0, 1, 2, 5, 6, 7, 3] rfl rfl
                  exact ih1 (j1 + 1) (x7_1 ||| ((1 : Int32) <<< ((rB (12 * i + j1)) &&& 31))) (by omega) (by omega) (by rw [L1_X12_spread, ← hst1]; exact (show L1_X12_spreads rA rB rF rT rW rO i se h ct fr j1 x7_1 = x7_1 ||| ((1 : Int32) <<< ((rB (12 * i + j1)) &&& 31)) from by rw [L1_X12_spreads, if_neg c8, if_neg c11, if_pos c14, if_pos c28, if_neg c32]).symm) _ _ _ hW (lv_sub hl [0, 1, 3, 4, 5, 6, 7, 8, 9] rfl)
                · refine lv_iload (pc := 112) hx hb dX12_spread_112 (lv_at hl 0 rfl) ?_
                  refine lv_iconst (v := 1) (pc := 114) hx hb dX12_spread_114 (by decide) ?_
                  refine lv_aload_n (pc := 115) hx hb dX12_spread_115 rfl (lv_at hl 3 rfl) ?_
                  refine r_get X hW 4 ciX12 12 rfl (by decide) m_1243 rfl h12_ dX12_spread_116 ?_
                  refine lv_iload (pc := 119) hx hb dX12_spread_119 (lv_at hl 1 rfl) ?_
                  refine r_iald X hW 1 rfl (vp_in_nI (by omega) (by decide)) dX12_spread_121 ?_
                  refine lv_topi (fun v35 ev35 => ?_)
                  obtain rfl : v35 = rA (12 * i + j1) := ev35.trans (by rw [nI_clamp (by omega)])
                  refine lv_ishl (pc := 122) hx hb dX12_spread_122 ?_
                  refine lv_ior (pc := 123) hx hb dX12_spread_123 ?_
                  refine lv_istore (lv' := [(7, .int ((x7_1 ||| ((1 : Int32) <<< ((rB (12 * i + j1)) &&& 31))) ||| ((1 : Int32) <<< ((rA (12 * i + j1)) &&& 31)))), (9, .int (nI (12 * i + j1))), (8, .int (nI j1)), (0, .ref h0), (1, .int (nI i)), (2, .int se), (3, .int h), (4, .int ct), (5, .int fr), (6, .int nt)]) (pc := 124) hx hb dX12_spread_124 hl (by decide) rfl (fun ls hl => ?_)
                  refine lv_iinc (v := nI (j1 + 1)) (lv' := [(8, .int (nI (j1 + 1))), (7, .int ((x7_1 ||| ((1 : Int32) <<< ((rB (12 * i + j1)) &&& 31))) ||| ((1 : Int32) <<< ((rA (12 * i + j1)) &&& 31)))), (9, .int (nI (12 * i + j1))), (0, .ref h0), (1, .int (nI i)), (2, .int se), (3, .int h), (4, .int ct), (5, .int fr), (6, .int nt)]) (pc := 126) hx hb dX12_spread_126 hl (k := 2) rfl (nI_add j1 1) (by decide) rfl (fun ls hl => ?_)
                  refine lv_goto (tgt := 7) (pc := 129) hx hb dX12_spread_129 rfl ?_
                  have hW : WD g A s _ _ [(h0, .inr (12, vs)), (b7, .inl (g.2.1 1, 11, .inl rL)), (b12, .inl (g.2.1 1, 132, .inl rA)), (b13, .inl (g.2.1 1, 132, .inl rB)), (b14, .inl (g.2.1 1, 132, .inl rF)), (b15, .inl (g.2.1 1, 132, .inl rT)), (b16, .inl (g.2.1 1, 132, .inl rW)), (b17, .inl (g.2.1 3, 132, .inl rO))] := hW.pick [4, 0, 1, 2, 5, 6, 7, 3] rfl rfl
                  exact ih1 (j1 + 1) ((x7_1 ||| ((1 : Int32) <<< ((rB (12 * i + j1)) &&& 31))) ||| ((1 : Int32) <<< ((rA (12 * i + j1)) &&& 31))) (by omega) (by omega) (by rw [L1_X12_spread, ← hst1]; exact (show L1_X12_spreads rA rB rF rT rW rO i se h ct fr j1 x7_1 = (x7_1 ||| ((1 : Int32) <<< ((rB (12 * i + j1)) &&& 31))) ||| ((1 : Int32) <<< ((rA (12 * i + j1)) &&& 31)) from by rw [L1_X12_spreads, if_neg c8, if_neg c11, if_pos c14, if_pos c28, if_pos c32]).symm) _ _ _ hW (lv_sub hl [0, 1, 3, 4, 5, 6, 7, 8, 9] rfl)
          · refine lv_iload_n (pc := 47) hx hb dX12_spread_47 rfl (lv_at hl 6 rfl) ?_
            refine lv_iload (pc := 48) hx hb dX12_spread_48 (lv_at hl 7 rfl) ?_
            refine lv_icmp_lt (tgt := 56) (pc := 50) hx hb dX12_spread_50 rfl (fun c37 => ?_) (fun c37 => ?_)
            · refine lv_iload (pc := 56) hx hb dX12_spread_56 (lv_at hl 8 rfl) ?_
              refine lv_aload_n (pc := 58) hx hb dX12_spread_58 rfl (lv_at hl 3 rfl) ?_
              refine r_get X hW 4 ciX12 12 rfl (by decide) m_1243 rfl h12_ dX12_spread_59 ?_
              refine lv_iload (pc := 62) hx hb dX12_spread_62 (lv_at hl 0 rfl) ?_
              refine r_iald X hW 1 rfl (vp_in_nI (by omega) (by decide)) dX12_spread_64 ?_
              refine lv_topi (fun v39 ev39 => ?_)
              obtain rfl : v39 = rA (12 * i + j1) := ev39.trans (by rw [nI_clamp (by omega)])
              refine lv_ishr (pc := 65) hx hb dX12_spread_65 ?_
              refine lv_iconst (v := 1) (pc := 66) hx hb dX12_spread_66 (by decide) ?_
              refine lv_iand (pc := 67) hx hb dX12_spread_67 ?_
              refine lv_iconst (v := 1) (pc := 68) hx hb dX12_spread_68 (by decide) ?_
              refine lv_icmp_ne (tgt := 86) (pc := 69) hx hb dX12_spread_69 rfl (fun c40 => ?_) (fun c40 => ?_)
              · refine lv_aload_n (pc := 86) hx hb dX12_spread_86 rfl (lv_at hl 3 rfl) ?_
                refine r_get X hW 4 ciX12 17 rfl (by decide) m_1248 rfl h17_ dX12_spread_87 ?_
                refine lv_iload (pc := 90) hx hb dX12_spread_90 (lv_at hl 0 rfl) ?_
                refine r_zald X hW 3 rfl (vp_in_nI (by omega) (by decide)) dX12_spread_92 ?_
                refine lv_topi (fun v42 ev42 => ?_)
                obtain rfl : v42 = rO (12 * i + j1) := ev42.trans (by rw [nI_clamp (by omega)])
                refine lv_if_ne (tgt := 126) (pc := 93) hx hb dX12_spread_93 rfl (fun c43 => ?_) (fun c43 => ?_)
                · refine lv_iinc (v := nI (j1 + 1)) (lv' := [(8, .int (nI (j1 + 1))), (9, .int (nI (12 * i + j1))), (7, .int x7_1), (0, .ref h0), (1, .int (nI i)), (2, .int se), (3, .int h), (4, .int ct), (5, .int fr), (6, .int nt)]) (pc := 126) hx hb dX12_spread_126 hl (k := 1) rfl (nI_add j1 1) (by decide) rfl (fun ls hl => ?_)
                  refine lv_goto (tgt := 7) (pc := 129) hx hb dX12_spread_129 rfl ?_
                  have hW : WD g A s _ _ [(h0, .inr (12, vs)), (b7, .inl (g.2.1 1, 11, .inl rL)), (b12, .inl (g.2.1 1, 132, .inl rA)), (b13, .inl (g.2.1 1, 132, .inl rB)), (b14, .inl (g.2.1 1, 132, .inl rF)), (b15, .inl (g.2.1 1, 132, .inl rT)), (b16, .inl (g.2.1 1, 132, .inl rW)), (b17, .inl (g.2.1 3, 132, .inl rO))] := hW.pick [4, 0, 1, 2, 5, 6, 7, 3] rfl rfl
                  exact ih1 (j1 + 1) x7_1 (by omega) (by omega) (by rw [L1_X12_spread, ← hst1]; exact (show L1_X12_spreads rA rB rF rT rW rO i se h ct fr j1 x7_1 = x7_1 from by rw [L1_X12_spreads, if_neg c8, if_pos c11, if_pos c37, if_neg c40, if_neg c43]).symm) _ _ _ hW (lv_sub hl [0, 2, 3, 4, 5, 6, 7, 8, 9] rfl)
                · refine lv_iload (pc := 96) hx hb dX12_spread_96 (lv_at hl 8 rfl) ?_
                  refine lv_aload_n (pc := 98) hx hb dX12_spread_98 rfl (lv_at hl 3 rfl) ?_
                  refine r_get X hW 4 ciX12 13 rfl (by decide) m_1244 rfl h13_ dX12_spread_99 ?_
                  refine lv_iload (pc := 102) hx hb dX12_spread_102 (lv_at hl 0 rfl) ?_
                  refine r_iald X hW 2 rfl (vp_in_nI (by omega) (by decide)) dX12_spread_104 ?_
                  refine lv_topi (fun v46 ev46 => ?_)
                  obtain rfl : v46 = rB (12 * i + j1) := ev46.trans (by rw [nI_clamp (by omega)])
                  refine lv_ishr (pc := 105) hx hb dX12_spread_105 ?_
                  refine lv_iconst (v := 1) (pc := 106) hx hb dX12_spread_106 (by decide) ?_
                  refine lv_iand (pc := 107) hx hb dX12_spread_107 ?_
                  refine lv_iconst (v := 1) (pc := 108) hx hb dX12_spread_108 (by decide) ?_
                  refine lv_icmp_ne (tgt := 126) (pc := 109) hx hb dX12_spread_109 rfl (fun c47 => ?_) (fun c47 => ?_)
                  · refine lv_iinc (v := nI (j1 + 1)) (lv' := [(8, .int (nI (j1 + 1))), (9, .int (nI (12 * i + j1))), (7, .int x7_1), (0, .ref h0), (1, .int (nI i)), (2, .int se), (3, .int h), (4, .int ct), (5, .int fr), (6, .int nt)]) (pc := 126) hx hb dX12_spread_126 hl (k := 1) rfl (nI_add j1 1) (by decide) rfl (fun ls hl => ?_)
                    refine lv_goto (tgt := 7) (pc := 129) hx hb dX12_spread_129 rfl ?_
                    have hW : WD g A s _ _ [(h0, .inr (12, vs)), (b7, .inl (g.2.1 1, 11, .inl rL)), (b12, .inl (g.2.1 1, 132, .inl rA)), (b13, .inl (g.2.1 1, 132, .inl rB)), (b14, .inl (g.2.1 1, 132, .inl rF)), (b15, .inl (g.2.1 1, 132, .inl rT)), (b16, .inl (g.2.1 1, 132, .inl rW)), (b17, .inl (g.2.1 3, 132, .inl rO))] := hW.pick [4, 0, 1, 2, 5, 6, 7, 3] rfl rfl
                    exact ih1 (j1 + 1) x7_1 (by omega) (by omega) (by rw [L1_X12_spread, ← hst1]; exact (show L1_X12_spreads rA rB rF rT rW rO i se h ct fr j1 x7_1 = x7_1 from by rw [L1_X12_spreads, if_neg c8, if_pos c11, if_pos c37, if_neg c40, if_pos c43, if_neg c47]).symm) _ _ _ hW (lv_sub hl [0, 2, 3, 4, 5, 6, 7, 8, 9] rfl)
                  · refine lv_iload (pc := 112) hx hb dX12_spread_112 (lv_at hl 2 rfl) ?_
                    refine lv_iconst (v := 1) (pc := 114) hx hb dX12_spread_114 (by decide) ?_
                    refine lv_aload_n (pc := 115) hx hb dX12_spread_115 rfl (lv_at hl 3 rfl) ?_
                    refine r_get X hW 4 ciX12 12 rfl (by decide) m_1243 rfl h12_ dX12_spread_116 ?_
                    refine lv_iload (pc := 119) hx hb dX12_spread_119 (lv_at hl 0 rfl) ?_
                    refine r_iald X hW 1 rfl (vp_in_nI (by omega) (by decide)) dX12_spread_121 ?_
                    refine lv_topi (fun v50 ev50 => ?_)
                    obtain rfl : v50 = rA (12 * i + j1) := ev50.trans (by rw [nI_clamp (by omega)])
                    refine lv_ishl (pc := 122) hx hb dX12_spread_122 ?_
                    refine lv_ior (pc := 123) hx hb dX12_spread_123 ?_
                    refine lv_istore (lv' := [(7, .int (x7_1 ||| ((1 : Int32) <<< ((rA (12 * i + j1)) &&& 31)))), (9, .int (nI (12 * i + j1))), (8, .int (nI j1)), (0, .ref h0), (1, .int (nI i)), (2, .int se), (3, .int h), (4, .int ct), (5, .int fr), (6, .int nt)]) (pc := 124) hx hb dX12_spread_124 hl (by decide) rfl (fun ls hl => ?_)
                    refine lv_iinc (v := nI (j1 + 1)) (lv' := [(8, .int (nI (j1 + 1))), (7, .int (x7_1 ||| ((1 : Int32) <<< ((rA (12 * i + j1)) &&& 31)))), (9, .int (nI (12 * i + j1))), (0, .ref h0), (1, .int (nI i)), (2, .int se), (3, .int h), (4, .int ct), (5, .int fr), (6, .int nt)]) (pc := 126) hx hb dX12_spread_126 hl (k := 2) rfl (nI_add j1 1) (by decide) rfl (fun ls hl => ?_)
                    refine lv_goto (tgt := 7) (pc := 129) hx hb dX12_spread_129 rfl ?_
                    have hW : WD g A s _ _ [(h0, .inr (12, vs)), (b7, .inl (g.2.1 1, 11, .inl rL)), (b12, .inl (g.2.1 1, 132, .inl rA)), (b13, .inl (g.2.1 1, 132, .inl rB)), (b14, .inl (g.2.1 1, 132, .inl rF)), (b15, .inl (g.2.1 1, 132, .inl rT)), (b16, .inl (g.2.1 1, 132, .inl rW)), (b17, .inl (g.2.1 3, 132, .inl rO))] := hW.pick [4, 0, 1, 2, 5, 6, 7, 3] rfl rfl
                    exact ih1 (j1 + 1) (x7_1 ||| ((1 : Int32) <<< ((rA (12 * i + j1)) &&& 31))) (by omega) (by omega) (by rw [L1_X12_spread, ← hst1]; exact (show L1_X12_spreads rA rB rF rT rW rO i se h ct fr j1 x7_1 = x7_1 ||| ((1 : Int32) <<< ((rA (12 * i + j1)) &&& 31)) from by rw [L1_X12_spreads, if_neg c8, if_pos c11, if_pos c37, if_neg c40, if_pos c43, if_pos c47]).symm) _ _ _ hW (lv_sub hl [0, 1, 3, 4, 5, 6, 7, 8, 9] rfl)
              · refine lv_iload (pc := 72) hx hb dX12_spread_72 (lv_at hl 2 rfl) ?_
                refine lv_iconst (v := 1) (pc := 74) hx hb dX12_spread_74 (by decide) ?_
                refine lv_aload_n (pc := 75) hx hb dX12_spread_75 rfl (lv_at hl 3 rfl) ?_
                refine r_get X hW 4 ciX12 13 rfl (by decide) m_1244 rfl h13_ dX12_spread_76 ?_
                refine lv_iload (pc := 79) hx hb dX12_spread_79 (lv_at hl 0 rfl) ?_
                refine r_iald X hW 2 rfl (vp_in_nI (by omega) (by decide)) dX12_spread_81 ?_
                refine lv_topi (fun v52 ev52 => ?_)
                obtain rfl : v52 = rB (12 * i + j1) := ev52.trans (by rw [nI_clamp (by omega)])
                refine lv_ishl (pc := 82) hx hb dX12_spread_82 ?_
                refine lv_ior (pc := 83) hx hb dX12_spread_83 ?_
                refine lv_istore (lv' := [(7, .int (x7_1 ||| ((1 : Int32) <<< ((rB (12 * i + j1)) &&& 31)))), (9, .int (nI (12 * i + j1))), (8, .int (nI j1)), (0, .ref h0), (1, .int (nI i)), (2, .int se), (3, .int h), (4, .int ct), (5, .int fr), (6, .int nt)]) (pc := 84) hx hb dX12_spread_84 hl (by decide) rfl (fun ls hl => ?_)
                refine lv_aload_n (pc := 86) hx hb dX12_spread_86 rfl (lv_at hl 3 rfl) ?_
                refine r_get X hW 4 ciX12 17 rfl (by decide) m_1248 rfl h17_ dX12_spread_87 ?_
                refine lv_iload (pc := 90) hx hb dX12_spread_90 (lv_at hl 1 rfl) ?_
                refine r_zald X hW 3 rfl (vp_in_nI (by omega) (by decide)) dX12_spread_92 ?_
                refine lv_topi (fun v53 ev53 => ?_)
                obtain rfl : v53 = rO (12 * i + j1) := ev53.trans (by rw [nI_clamp (by omega)])
                refine lv_if_ne (tgt := 126) (pc := 93) hx hb dX12_spread_93 rfl (fun c54 => ?_) (fun c54 => ?_)
                · refine lv_iinc (v := nI (j1 + 1)) (lv' := [(8, .int (nI (j1 + 1))), (7, .int (x7_1 ||| ((1 : Int32) <<< ((rB (12 * i + j1)) &&& 31)))), (9, .int (nI (12 * i + j1))), (0, .ref h0), (1, .int (nI i)), (2, .int se), (3, .int h), (4, .int ct), (5, .int fr), (6, .int nt)]) (pc := 126) hx hb dX12_spread_126 hl (k := 2) rfl (nI_add j1 1) (by decide) rfl (fun ls hl => ?_)
                  refine lv_goto (tgt := 7) (pc := 129) hx hb dX12_spread_129 rfl ?_
                  have hW : WD g A s _ _ [(h0, .inr (12, vs)), (b7, .inl (g.2.1 1, 11, .inl rL)), (b12, .inl (g.2.1 1, 132, .inl rA)), (b13, .inl (g.2.1 1, 132, .inl rB)), (b14, .inl (g.2.1 1, 132, .inl rF)), (b15, .inl (g.2.1 1, 132, .inl rT)), (b16, .inl (g.2.1 1, 132, .inl rW)), (b17, .inl (g.2.1 3, 132, .inl rO))] := hW.pick [4, 0, 1, 2, 5, 6, 7, 3] rfl rfl
                  exact ih1 (j1 + 1) (x7_1 ||| ((1 : Int32) <<< ((rB (12 * i + j1)) &&& 31))) (by omega) (by omega) (by rw [L1_X12_spread, ← hst1]; exact (show L1_X12_spreads rA rB rF rT rW rO i se h ct fr j1 x7_1 = x7_1 ||| ((1 : Int32) <<< ((rB (12 * i + j1)) &&& 31)) from by rw [L1_X12_spreads, if_neg c8, if_pos c11, if_pos c37, if_pos c40, if_neg c54]).symm) _ _ _ hW (lv_sub hl [0, 1, 3, 4, 5, 6, 7, 8, 9] rfl)
                · refine lv_iload (pc := 96) hx hb dX12_spread_96 (lv_at hl 8 rfl) ?_
                  refine lv_aload_n (pc := 98) hx hb dX12_spread_98 rfl (lv_at hl 3 rfl) ?_
                  refine r_get X hW 4 ciX12 13 rfl (by decide) m_1244 rfl h13_ dX12_spread_99 ?_
                  refine lv_iload (pc := 102) hx hb dX12_spread_102 (lv_at hl 1 rfl) ?_
                  refine r_iald X hW 2 rfl (vp_in_nI (by omega) (by decide)) dX12_spread_104 ?_
                  refine lv_topi (fun v57 ev57 => ?_)
                  obtain rfl : v57 = rB (12 * i + j1) := ev57.trans (by rw [nI_clamp (by omega)])
                  refine lv_ishr (pc := 105) hx hb dX12_spread_105 ?_
                  refine lv_iconst (v := 1) (pc := 106) hx hb dX12_spread_106 (by decide) ?_
                  refine lv_iand (pc := 107) hx hb dX12_spread_107 ?_
                  refine lv_iconst (v := 1) (pc := 108) hx hb dX12_spread_108 (by decide) ?_
                  refine lv_icmp_ne (tgt := 126) (pc := 109) hx hb dX12_spread_109 rfl (fun c58 => ?_) (fun c58 => ?_)
                  · refine lv_iinc (v := nI (j1 + 1)) (lv' := [(8, .int (nI (j1 + 1))), (7, .int (x7_1 ||| ((1 : Int32) <<< ((rB (12 * i + j1)) &&& 31)))), (9, .int (nI (12 * i + j1))), (0, .ref h0), (1, .int (nI i)), (2, .int se), (3, .int h), (4, .int ct), (5, .int fr), (6, .int nt)]) (pc := 126) hx hb dX12_spread_126 hl (k := 2) rfl (nI_add j1 1) (by decide) rfl (fun ls hl => ?_)
                    refine lv_goto (tgt := 7) (pc := 129) hx hb dX12_spread_129 rfl ?_
                    have hW : WD g A s _ _ [(h0, .inr (12, vs)), (b7, .inl (g.2.1 1, 11, .inl rL)), (b12, .inl (g.2.1 1, 132, .inl rA)), (b13, .inl (g.2.1 1, 132, .inl rB)), (b14, .inl (g.2.1 1, 132, .inl rF)), (b15, .inl (g.2.1 1, 132, .inl rT)), (b16, .inl (g.2.1 1, 132, .inl rW)), (b17, .inl (g.2.1 3, 132, .inl rO))] := hW.pick [4, 0, 1, 2, 5, 6, 7, 3] rfl rfl
                    exact ih1 (j1 + 1) (x7_1 ||| ((1 : Int32) <<< ((rB (12 * i + j1)) &&& 31))) (by omega) (by omega) (by rw [L1_X12_spread, ← hst1]; exact (show L1_X12_spreads rA rB rF rT rW rO i se h ct fr j1 x7_1 = x7_1 ||| ((1 : Int32) <<< ((rB (12 * i + j1)) &&& 31)) from by rw [L1_X12_spreads, if_neg c8, if_pos c11, if_pos c37, if_pos c40, if_pos c54, if_neg c58]).symm) _ _ _ hW (lv_sub hl [0, 1, 3, 4, 5, 6, 7, 8, 9] rfl)
                  · refine lv_iload (pc := 112) hx hb dX12_spread_112 (lv_at hl 0 rfl) ?_
                    refine lv_iconst (v := 1) (pc := 114) hx hb dX12_spread_114 (by decide) ?_
                    refine lv_aload_n (pc := 115) hx hb dX12_spread_115 rfl (lv_at hl 3 rfl) ?_
                    refine r_get X hW 4 ciX12 12 rfl (by decide) m_1243 rfl h12_ dX12_spread_116 ?_
                    refine lv_iload (pc := 119) hx hb dX12_spread_119 (lv_at hl 1 rfl) ?_
                    refine r_iald X hW 1 rfl (vp_in_nI (by omega) (by decide)) dX12_spread_121 ?_
                    refine lv_topi (fun v61 ev61 => ?_)
                    obtain rfl : v61 = rA (12 * i + j1) := ev61.trans (by rw [nI_clamp (by omega)])
                    refine lv_ishl (pc := 122) hx hb dX12_spread_122 ?_
                    refine lv_ior (pc := 123) hx hb dX12_spread_123 ?_
                    refine lv_istore (lv' := [(7, .int ((x7_1 ||| ((1 : Int32) <<< ((rB (12 * i + j1)) &&& 31))) ||| ((1 : Int32) <<< ((rA (12 * i + j1)) &&& 31)))), (9, .int (nI (12 * i + j1))), (8, .int (nI j1)), (0, .ref h0), (1, .int (nI i)), (2, .int se), (3, .int h), (4, .int ct), (5, .int fr), (6, .int nt)]) (pc := 124) hx hb dX12_spread_124 hl (by decide) rfl (fun ls hl => ?_)
                    refine lv_iinc (v := nI (j1 + 1)) (lv' := [(8, .int (nI (j1 + 1))), (7, .int ((x7_1 ||| ((1 : Int32) <<< ((rB (12 * i + j1)) &&& 31))) ||| ((1 : Int32) <<< ((rA (12 * i + j1)) &&& 31)))), (9, .int (nI (12 * i + j1))), (0, .ref h0), (1, .int (nI i)), (2, .int se), (3, .int h), (4, .int ct), (5, .int fr), (6, .int nt)]) (pc := 126) hx hb dX12_spread_126 hl (k := 2) rfl (nI_add j1 1) (by decide) rfl (fun ls hl => ?_)
                    refine lv_goto (tgt := 7) (pc := 129) hx hb dX12_spread_129 rfl ?_
                    have hW : WD g A s _ _ [(h0, .inr (12, vs)), (b7, .inl (g.2.1 1, 11, .inl rL)), (b12, .inl (g.2.1 1, 132, .inl rA)), (b13, .inl (g.2.1 1, 132, .inl rB)), (b14, .inl (g.2.1 1, 132, .inl rF)), (b15, .inl (g.2.1 1, 132, .inl rT)), (b16, .inl (g.2.1 1, 132, .inl rW)), (b17, .inl (g.2.1 3, 132, .inl rO))] := hW.pick [4, 0, 1, 2, 5, 6, 7, 3] rfl rfl
                    exact ih1 (j1 + 1) ((x7_1 ||| ((1 : Int32) <<< ((rB (12 * i + j1)) &&& 31))) ||| ((1 : Int32) <<< ((rA (12 * i + j1)) &&& 31))) (by omega) (by omega) (by rw [L1_X12_spread, ← hst1]; exact (show L1_X12_spreads rA rB rF rT rW rO i se h ct fr j1 x7_1 = (x7_1 ||| ((1 : Int32) <<< ((rB (12 * i + j1)) &&& 31))) ||| ((1 : Int32) <<< ((rA (12 * i + j1)) &&& 31)) from by rw [L1_X12_spreads, if_neg c8, if_pos c11, if_pos c37, if_pos c40, if_pos c54, if_pos c58]).symm) _ _ _ hW (lv_sub hl [0, 1, 3, 4, 5, 6, 7, 8, 9] rfl)
            · refine lv_goto (tgt := 126) (pc := 53) hx hb dX12_spread_53 rfl ?_
              refine lv_iinc (v := nI (j1 + 1)) (lv' := [(8, .int (nI (j1 + 1))), (9, .int (nI (12 * i + j1))), (7, .int x7_1), (0, .ref h0), (1, .int (nI i)), (2, .int se), (3, .int h), (4, .int ct), (5, .int fr), (6, .int nt)]) (pc := 126) hx hb dX12_spread_126 hl (k := 1) rfl (nI_add j1 1) (by decide) rfl (fun ls hl => ?_)
              refine lv_goto (tgt := 7) (pc := 129) hx hb dX12_spread_129 rfl ?_
              have hW : WD g A s _ _ [(h0, .inr (12, vs)), (b7, .inl (g.2.1 1, 11, .inl rL)), (b12, .inl (g.2.1 1, 132, .inl rA)), (b13, .inl (g.2.1 1, 132, .inl rB)), (b14, .inl (g.2.1 1, 132, .inl rF)), (b15, .inl (g.2.1 1, 132, .inl rT)), (b16, .inl (g.2.1 1, 132, .inl rW)), (b17, .inl (g.2.1 3, 132, .inl rO))] := hW.pick [4, 0, 1, 2, 5, 6, 7, 3] rfl rfl
              exact ih1 (j1 + 1) x7_1 (by omega) (by omega) (by rw [L1_X12_spread, ← hst1]; exact (show L1_X12_spreads rA rB rF rT rW rO i se h ct fr j1 x7_1 = x7_1 from by rw [L1_X12_spreads, if_neg c8, if_pos c11, if_neg c37]).symm) _ _ _ hW (lv_sub hl [0, 2, 3, 4, 5, 6, 7, 8, 9] rfl)
  exact loop1 (lc + 1) 0 fr (by omega) (by omega) rfl _ _ _ hW (lv_sub hl [0, 1, 2, 3, 4, 5, 6, 7, 8] rfl)

def L1_X12_reachs (rL : Nat → Int32) (rS : Nat → Int32) (rA : Nat → Int32) (rB : Nat → Int32) (rF : Nat → Int32) (rT : Nat → Int32) (rW : Nat → Int32) (rO : Nat → Int32) (x : Int32) (y : Int32) (z : Int32) (j1 : Nat) (x7_1 : Int32) (x6_1 : Int32) : Int32 × Int32 := (mn2 ((2 : Int32) * x7_1) (F_J6_bitCount (F_X12_spread rA rB rF rT rW rO (tN x) (tN (rL (tN x))) (0 : Int32) (nI (tN z + j1)) (0 : Int32) x6_1 (rS (4 * (tN x) + tN y)))), F_X12_spread rA rB rF rT rW rO (tN x) (tN (rL (tN x))) (0 : Int32) (nI (tN z + j1)) (0 : Int32) x6_1 (rS (4 * (tN x) + tN y)))
def L1_X12_reach (rL : Nat → Int32) (rS : Nat → Int32) (rA : Nat → Int32) (rB : Nat → Int32) (rF : Nat → Int32) (rT : Nat → Int32) (rW : Nat → Int32) (rO : Nat → Int32) (x : Int32) (y : Int32) (z : Int32) (i0_ : Int32) (i1_ : Int32) : Nat → Int32 × Int32
  | 0 => (i0_, i1_)
  | k_ + 1 => L1_X12_reachs rL rS rA rB rF rT rW rO x y z k_ ((L1_X12_reach rL rS rA rB rF rT rW rO x y z i0_ i1_ k_).1) ((L1_X12_reach rL rS rA rB rF rT rW rO x y z i0_ i1_ k_).2)
def F_X12_reach (nv : Nat) (rL : Nat → Int32) (rK : Nat → Int32) (rS : Nat → Int32) (rA : Nat → Int32) (rB : Nat → Int32) (rF : Nat → Int32) (rT : Nat → Int32) (rW : Nat → Int32) (rO : Nat → Int32) (x : Int32) (y : Int32) (z : Int32) (t : Int32) : Int32 := if F_X12_isAsked nv x y = 0 then ((-1 : Int32)) else (if F_X12_isHour z = 0 then ((-1 : Int32)) else (if F_X12_isIn t (0 : Int32) (nI (25 - (tN z))) = 0 then ((-1 : Int32)) else (((L1_X12_reach rL rS rA rB rF rT rW rO x y z (F_J6_bitCount ((rK (4 * (tN x) + tN y)) &&& ((rS (4 * (tN x) + tN y)) ^^^ (-1 : Int32)))) ((rK (4 * (tN x) + tN y)) &&& ((rS (4 * (tN x) + tN y)) ^^^ (-1 : Int32))) (tN t)).1))))
set_option maxHeartbeats 4000000 in
set_option maxRecDepth 100000 in
theorem K_X12_reach (l : Launch) (g : GG) (h0 : Nat) (vs : List Value) (nv : Nat) (b7 : Nat) (rL : Nat → Int32) (b9 : Nat) (rK : Nat → Int32) (b11 : Nat) (rS : Nat → Int32) (b12 : Nat) (rA : Nat → Int32) (b13 : Nat) (rB : Nat → Int32) (b14 : Nat) (rF : Nat → Int32) (b15 : Nat) (rT : Nat → Int32) (b16 : Nat) (rW : Nat → Int32) (b17 : Nat) (rO : Nat → Int32) (x : Int32) (y : Int32) (z : Int32) (t : Int32) (hlen : vs.length = 64) (h18_ : vs[18]? = some (.int (nI nv))) (h7_ : vs[7]? = some (.ref b7)) (h9_ : vs[9]? = some (.ref b9)) (h11_ : vs[11]? = some (.ref b11)) (h12_ : vs[12]? = some (.ref b12)) (h13_ : vs[13]? = some (.ref b13)) (h14_ : vs[14]? = some (.ref b14)) (h15_ : vs[15]? = some (.ref b15)) (h16_ : vs[16]? = some (.ref b16)) (h17_ : vs[17]? = some (.ref b17)) (hn : nv ≤ 10) (hLc : ∀ j : Nat, j < nv → rL j = nI (tN (rL j)) ∧ tN (rL j) ≤ 12) : MetI l g yX12_reach cX12_reach 9 (some .int) 3 0 0 [.ref h0, .int x, .int y, .int z, .int t] [(h0, .inr (12, vs)), (b7, .inl (g.2.1 1, 11, .inl rL)), (b9, .inl (g.2.1 1, 44, .inl rK)), (b11, .inl (g.2.1 1, 44, .inl rS)), (b12, .inl (g.2.1 1, 132, .inl rA)), (b13, .inl (g.2.1 1, 132, .inl rB)), (b14, .inl (g.2.1 1, 132, .inl rF)), (b15, .inl (g.2.1 1, 132, .inl rT)), (b16, .inl (g.2.1 1, 132, .inl rW)), (b17, .inl (g.2.1 3, 132, .inl rO))] (fun r u => r = (F_X12_reach nv rL rK rS rA rB rF rT rW rO x y z t) ∧ u = [(h0, .inr (12, (vs.set 0 (.int 0)))), (b7, .inl (g.2.1 1, 11, .inl rL)), (b9, .inl (g.2.1 1, 44, .inl rK)), (b11, .inl (g.2.1 1, 44, .inl rS)), (b12, .inl (g.2.1 1, 132, .inl rA)), (b13, .inl (g.2.1 1, 132, .inl rB)), (b14, .inl (g.2.1 1, 132, .inl rF)), (b15, .inl (g.2.1 1, 132, .inl rT)), (b16, .inl (g.2.1 1, 132, .inl rW)), (b17, .inl (g.2.1 3, 132, .inl rO))]) := by
  refine MetI.of (own := RX12) rfl (by decide) (Nat.le_of_ble_eq_true rfl) ?_
  intro p e s m below meth c A ls args Q hQ X hr hin hW hl
  have hx := X.1
  have hb := X.2.1
  have hl : lv_has ls 9 [(0, .ref h0), (1, .int x), (2, .int y), (3, .int z), (4, .int t)] := hl
  refine lv_aload_n (pc := 0) hx hb dX12_reach_0 rfl (lv_at hl 0 rfl) ?_
  refine lv_iload_n (pc := 1) hx hb dX12_reach_1 rfl (lv_at hl 1 rfl) ?_
  refine lv_iload_n (pc := 2) hx hb dX12_reach_2 rfl (lv_at hl 2 rfl) ?_
  refine c_Vi (pc := 3) (As := [.int x, .int y]) (rest := []) (wr := [(b7, .inl (g.2.1 1, 11, .inl rL)), (b9, .inl (g.2.1 1, 44, .inl rK)), (b11, .inl (g.2.1 1, 44, .inl rS)), (b12, .inl (g.2.1 1, 132, .inl rA)), (b13, .inl (g.2.1 1, 132, .inl rB)), (b14, .inl (g.2.1 1, 132, .inl rF)), (b15, .inl (g.2.1 1, 132, .inl rT)), (b16, .inl (g.2.1 1, 132, .inl rW)), (b17, .inl (g.2.1 3, 132, .inl rO))]) X hW 0 ciX12 rfl (K_X12_isAsked l g h0 vs nv x y hlen h18_ (by omega)) vX12_315 [0] [1, 2, 3, 4, 5, 6, 7, 8, 9] rfl rfl rfl rfl rfl rfl hl.1 rfl (Nat.le_of_ble_eq_true rfl) ⟨Nat.le_of_ble_eq_true rfl, Nat.le_of_ble_eq_true rfl⟩ ⟨Nat.le_of_ble_eq_true rfl, Nat.le_of_ble_eq_true rfl⟩ dX12_reach_3 (fun r1 u9 H locs hq hW => ?_)
  obtain ⟨rfl, rfl⟩ := hq
  have hW : WD g A s _ _ [(b7, .inl (g.2.1 1, 11, .inl rL)), (b9, .inl (g.2.1 1, 44, .inl rK)), (b11, .inl (g.2.1 1, 44, .inl rS)), (b12, .inl (g.2.1 1, 132, .inl rA)), (b13, .inl (g.2.1 1, 132, .inl rB)), (b14, .inl (g.2.1 1, 132, .inl rF)), (b15, .inl (g.2.1 1, 132, .inl rT)), (b16, .inl (g.2.1 1, 132, .inl rW)), (b17, .inl (g.2.1 3, 132, .inl rO)), (h0, .inr (12, (vs.set 0 (.int 0))))] := hW
  refine lv_if_eq (tgt := 29) (pc := 6) hx hb dX12_reach_6 rfl (fun c2 => ?_) (fun c2 => ?_)
  · refine lv_iconst (v := (-1)) (pc := 29) hx hb dX12_reach_29 (by decide) ?_
    have hF : F_X12_reach nv rL rK rS rA rB rF rT rW rO x y z t = (-1 : Int32) := show F_X12_reach nv rL rK rS rA rB rF rT rW rO x y z t = (-1 : Int32) from by rw [F_X12_reach, if_pos c2]
    exact e_i (u := [(h0, .inr (12, (vs.set 0 (.int 0)))), (b7, .inl (g.2.1 1, 11, .inl rL)), (b9, .inl (g.2.1 1, 44, .inl rK)), (b11, .inl (g.2.1 1, 44, .inl rS)), (b12, .inl (g.2.1 1, 132, .inl rA)), (b13, .inl (g.2.1 1, 132, .inl rB)), (b14, .inl (g.2.1 1, 132, .inl rF)), (b15, .inl (g.2.1 1, 132, .inl rT)), (b16, .inl (g.2.1 1, 132, .inl rW)), (b17, .inl (g.2.1 3, 132, .inl rO))]) X hQ hr (hW) [9, 0, 1, 2, 3, 4, 5, 6, 7, 8] rfl rfl (⟨hF.symm, rfl⟩) ⟨Nat.le_of_ble_eq_true rfl, Nat.le_of_ble_eq_true rfl⟩ dX12_reach_30
  · obtain ⟨⟨dx1, dx2⟩, dy1, dy2⟩ := ia_at hn c2
    have hL12 := hLc (tN x) dx2
    rw [dx1] at hl
    rw [dy1] at hl
    refine lv_iload_n (pc := 9) hx hb dX12_reach_9 rfl (lv_at hl 3 rfl) ?_
    refine c_Si (pc := 10) (As := [.int z]) (rest := []) (wr := [(b7, .inl (g.2.1 1, 11, .inl rL)), (b9, .inl (g.2.1 1, 44, .inl rK)), (b11, .inl (g.2.1 1, 44, .inl rS)), (b12, .inl (g.2.1 1, 132, .inl rA)), (b13, .inl (g.2.1 1, 132, .inl rB)), (b14, .inl (g.2.1 1, 132, .inl rF)), (b15, .inl (g.2.1 1, 132, .inl rT)), (b16, .inl (g.2.1 1, 132, .inl rW)), (b17, .inl (g.2.1 3, 132, .inl rO)), (h0, .inr (12, (vs.set 0 (.int 0))))]) X hW (K_X12_isHour l g z) vX12_228 [] [0, 1, 2, 3, 4, 5, 6, 7, 8, 9] rfl rfl rfl rfl rfl rfl hl.1 rfl (Nat.le_of_ble_eq_true rfl) ⟨Nat.le_of_ble_eq_true rfl, Nat.le_of_ble_eq_true rfl⟩ ⟨Nat.le_of_ble_eq_true rfl, Nat.le_of_ble_eq_true rfl⟩ dX12_reach_10 (fun r5 u9 H locs hq hW => ?_)
    obtain ⟨rfl, rfl⟩ := hq
    have hW : WD g A s _ _ [(b7, .inl (g.2.1 1, 11, .inl rL)), (b9, .inl (g.2.1 1, 44, .inl rK)), (b11, .inl (g.2.1 1, 44, .inl rS)), (b12, .inl (g.2.1 1, 132, .inl rA)), (b13, .inl (g.2.1 1, 132, .inl rB)), (b14, .inl (g.2.1 1, 132, .inl rF)), (b15, .inl (g.2.1 1, 132, .inl rT)), (b16, .inl (g.2.1 1, 132, .inl rW)), (b17, .inl (g.2.1 3, 132, .inl rO)), (h0, .inr (12, (vs.set 0 (.int 0))))] := hW
    refine lv_if_eq (tgt := 29) (pc := 13) hx hb dX12_reach_13 rfl (fun c6 => ?_) (fun c6 => ?_)
    · refine lv_iconst (v := (-1)) (pc := 29) hx hb dX12_reach_29 (by decide) ?_
      have hF : F_X12_reach nv rL rK rS rA rB rF rT rW rO x y z t = (-1 : Int32) := show F_X12_reach nv rL rK rS rA rB rF rT rW rO x y z t = (-1 : Int32) from by rw [F_X12_reach, if_neg c2, if_pos c6]
      exact e_i (u := [(h0, .inr (12, (vs.set 0 (.int 0)))), (b7, .inl (g.2.1 1, 11, .inl rL)), (b9, .inl (g.2.1 1, 44, .inl rK)), (b11, .inl (g.2.1 1, 44, .inl rS)), (b12, .inl (g.2.1 1, 132, .inl rA)), (b13, .inl (g.2.1 1, 132, .inl rB)), (b14, .inl (g.2.1 1, 132, .inl rF)), (b15, .inl (g.2.1 1, 132, .inl rT)), (b16, .inl (g.2.1 1, 132, .inl rW)), (b17, .inl (g.2.1 3, 132, .inl rO))]) X hQ hr (hW) [9, 0, 1, 2, 3, 4, 5, 6, 7, 8] rfl rfl (⟨hF.symm, rfl⟩) ⟨Nat.le_of_ble_eq_true rfl, Nat.le_of_ble_eq_true rfl⟩ dX12_reach_30
    · have hho := hr_at (show ¬ F_X11_isHour z = 0 from c6)
      have hho1 := hho.2.1
      have hho2 := hho.2.2
      rw [hho.1] at hl
      refine lv_iload (pc := 16) hx hb dX12_reach_16 (lv_at hl 4 rfl) ?_
      refine lv_iconst (v := 0) (pc := 18) hx hb dX12_reach_18 (by decide) ?_
      refine lv_bipush (v := 25) (pc := 19) hx hb dX12_reach_19 (by decide) ?_
      refine lv_iload_n (pc := 21) hx hb dX12_reach_21 rfl (lv_at hl 3 rfl) ?_
      refine lv_isub (pc := 22) hx hb dX12_reach_22 ?_
      refine lv_topi (fun v9 ev9 => ?_)
      obtain rfl : v9 = nI (25 - (tN z)) := ev9.trans (pk_sub (a := 25) (b := (tN z)) (by omega))
      refine c_Si (pc := 23) (As := [.int t, .int 0, .int (nI (25 - (tN z)))]) (rest := []) (wr := [(b7, .inl (g.2.1 1, 11, .inl rL)), (b9, .inl (g.2.1 1, 44, .inl rK)), (b11, .inl (g.2.1 1, 44, .inl rS)), (b12, .inl (g.2.1 1, 132, .inl rA)), (b13, .inl (g.2.1 1, 132, .inl rB)), (b14, .inl (g.2.1 1, 132, .inl rF)), (b15, .inl (g.2.1 1, 132, .inl rT)), (b16, .inl (g.2.1 1, 132, .inl rW)), (b17, .inl (g.2.1 3, 132, .inl rO)), (h0, .inr (12, (vs.set 0 (.int 0))))]) X hW (K_X12_isIn l g t (0 : Int32) (nI (25 - (tN z)))) vX12_198 [] [0, 1, 2, 3, 4, 5, 6, 7, 8, 9] rfl rfl rfl rfl rfl rfl hl.1 rfl (Nat.le_of_ble_eq_true rfl) ⟨Nat.le_of_ble_eq_true rfl, Nat.le_of_ble_eq_true rfl⟩ ⟨Nat.le_of_ble_eq_true rfl, Nat.le_of_ble_eq_true rfl⟩ dX12_reach_23 (fun r10 u9 H locs hq hW => ?_)
      obtain ⟨rfl, rfl⟩ := hq
      have hW : WD g A s _ _ [(b7, .inl (g.2.1 1, 11, .inl rL)), (b9, .inl (g.2.1 1, 44, .inl rK)), (b11, .inl (g.2.1 1, 44, .inl rS)), (b12, .inl (g.2.1 1, 132, .inl rA)), (b13, .inl (g.2.1 1, 132, .inl rB)), (b14, .inl (g.2.1 1, 132, .inl rF)), (b15, .inl (g.2.1 1, 132, .inl rT)), (b16, .inl (g.2.1 1, 132, .inl rW)), (b17, .inl (g.2.1 3, 132, .inl rO)), (h0, .inr (12, (vs.set 0 (.int 0))))] := hW
      refine lv_if_ne (tgt := 31) (pc := 26) hx hb dX12_reach_26 rfl (fun c11 => ?_) (fun c11 => ?_)
      · obtain ⟨ht1, -, ht2⟩ := bn_at (x := t) (lo := 0) (hi := 25 - tN z) (by omega) (in_at c11).1 (in_at c11).2
        rw [ht1] at hl
        refine lv_aload_n (pc := 31) hx hb dX12_reach_31 rfl (lv_at hl 0 rfl) ?_
        refine r_get X hW 9 ciX12 11 rfl (by decide) m_1242 rfl (sv_ne (k := 0) (by decide) h11_) dX12_reach_32 ?_
        refine lv_iconst (v := 4) (pc := 35) hx hb dX12_reach_35 (by decide) ?_
        refine lv_iload_n (pc := 36) hx hb dX12_reach_36 rfl (lv_at hl 1 rfl) ?_
        refine lv_imul (pc := 37) hx hb dX12_reach_37 ?_
        refine lv_topi (fun v13 ev13 => ?_)
        obtain rfl : v13 = nI (4 * (tN x)) := ev13.trans (pk_mul 4 (tN x))
        refine lv_iload_n (pc := 38) hx hb dX12_reach_38 rfl (lv_at hl 2 rfl) ?_
        refine lv_iadd (pc := 39) hx hb dX12_reach_39 ?_
        refine lv_topi (fun v14 ev14 => ?_)
        obtain rfl : v14 = nI (4 * (tN x) + tN y) := ev14.trans (nI_add _ _)
        refine r_iald X hW 2 rfl (vp_in_nI (by omega) (by decide)) dX12_reach_40 ?_
        refine lv_topi (fun v15 ev15 => ?_)
        obtain rfl : v15 = rS (4 * (tN x) + tN y) := ev15.trans (by rw [nI_clamp (by omega)])
        refine lv_istore (lv' := [(5, .int (rS (4 * (tN x) + tN y))), (0, .ref h0), (1, .int (nI (tN x))), (2, .int (nI (tN y))), (3, .int (nI (tN z))), (4, .int (nI (tN t)))]) (pc := 41) hx hb dX12_reach_41 hl (by decide) rfl (fun ls hl => ?_)
        refine lv_aload_n (pc := 43) hx hb dX12_reach_43 rfl (lv_at hl 1 rfl) ?_
        refine r_get X hW 9 ciX12 9 rfl (by decide) m_1240 rfl (sv_ne (k := 0) (by decide) h9_) dX12_reach_44 ?_
        refine lv_iconst (v := 4) (pc := 47) hx hb dX12_reach_47 (by decide) ?_
        refine lv_iload_n (pc := 48) hx hb dX12_reach_48 rfl (lv_at hl 2 rfl) ?_
        refine lv_imul (pc := 49) hx hb dX12_reach_49 ?_
        refine lv_topi (fun v16 ev16 => ?_)
        obtain rfl : v16 = nI (4 * (tN x)) := ev16.trans (pk_mul 4 (tN x))
        refine lv_iload_n (pc := 50) hx hb dX12_reach_50 rfl (lv_at hl 3 rfl) ?_
        refine lv_iadd (pc := 51) hx hb dX12_reach_51 ?_
        refine lv_topi (fun v17 ev17 => ?_)
        obtain rfl : v17 = nI (4 * (tN x) + tN y) := ev17.trans (nI_add _ _)
        refine r_iald X hW 1 rfl (vp_in_nI (by omega) (by decide)) dX12_reach_52 ?_
        refine lv_topi (fun v18 ev18 => ?_)
        obtain rfl : v18 = rK (4 * (tN x) + tN y) := ev18.trans (by rw [nI_clamp (by omega)])
        refine lv_iload (pc := 53) hx hb dX12_reach_53 (lv_at hl 0 rfl) ?_
        refine lv_iconst (v := (-1)) (pc := 55) hx hb dX12_reach_55 (by decide) ?_
        refine lv_ixor (pc := 56) hx hb dX12_reach_56 ?_
        refine lv_iand (pc := 57) hx hb dX12_reach_57 ?_
        refine lv_istore (lv' := [(6, .int ((rK (4 * (tN x) + tN y)) &&& ((rS (4 * (tN x) + tN y)) ^^^ (-1 : Int32)))), (5, .int (rS (4 * (tN x) + tN y))), (0, .ref h0), (1, .int (nI (tN x))), (2, .int (nI (tN y))), (3, .int (nI (tN z))), (4, .int (nI (tN t)))]) (pc := 58) hx hb dX12_reach_58 hl (by decide) rfl (fun ls hl => ?_)
        refine lv_iload (pc := 60) hx hb dX12_reach_60 (lv_at hl 0 rfl) ?_
        refine c_Si (pc := 62) (As := [.int ((rK (4 * (tN x) + tN y)) &&& ((rS (4 * (tN x) + tN y)) ^^^ (-1 : Int32)))]) (rest := []) (wr := [(b7, .inl (g.2.1 1, 11, .inl rL)), (b9, .inl (g.2.1 1, 44, .inl rK)), (b11, .inl (g.2.1 1, 44, .inl rS)), (b12, .inl (g.2.1 1, 132, .inl rA)), (b13, .inl (g.2.1 1, 132, .inl rB)), (b14, .inl (g.2.1 1, 132, .inl rF)), (b15, .inl (g.2.1 1, 132, .inl rT)), (b16, .inl (g.2.1 1, 132, .inl rW)), (b17, .inl (g.2.1 3, 132, .inl rO)), (h0, .inr (12, (vs.set 0 (.int 0))))]) X hW (K_J6_bitCount l g ((rK (4 * (tN x) + tN y)) &&& ((rS (4 * (tN x) + tN y)) ^^^ (-1 : Int32)))) vX12_334 [] [0, 1, 2, 3, 4, 5, 6, 7, 8, 9] rfl rfl rfl rfl rfl rfl hl.1 rfl (Nat.le_of_ble_eq_true rfl) ⟨Nat.le_of_ble_eq_true rfl, Nat.le_of_ble_eq_true rfl⟩ ⟨Nat.le_of_ble_eq_true rfl, Nat.le_of_ble_eq_true rfl⟩ dX12_reach_62 (fun r19 u9 H locs hq hW => ?_)
        obtain ⟨rfl, rfl⟩ := hq
        have hW : WD g A s _ _ [(b7, .inl (g.2.1 1, 11, .inl rL)), (b9, .inl (g.2.1 1, 44, .inl rK)), (b11, .inl (g.2.1 1, 44, .inl rS)), (b12, .inl (g.2.1 1, 132, .inl rA)), (b13, .inl (g.2.1 1, 132, .inl rB)), (b14, .inl (g.2.1 1, 132, .inl rF)), (b15, .inl (g.2.1 1, 132, .inl rT)), (b16, .inl (g.2.1 1, 132, .inl rW)), (b17, .inl (g.2.1 3, 132, .inl rO)), (h0, .inr (12, (vs.set 0 (.int 0))))] := hW
        refine lv_istore (lv' := [(7, .int (F_J6_bitCount ((rK (4 * (tN x) + tN y)) &&& ((rS (4 * (tN x) + tN y)) ^^^ (-1 : Int32))))), (6, .int ((rK (4 * (tN x) + tN y)) &&& ((rS (4 * (tN x) + tN y)) ^^^ (-1 : Int32)))), (5, .int (rS (4 * (tN x) + tN y))), (0, .ref h0), (1, .int (nI (tN x))), (2, .int (nI (tN y))), (3, .int (nI (tN z))), (4, .int (nI (tN t)))]) (pc := 65) hx hb dX12_reach_65 hl (by decide) rfl (fun ls hl => ?_)
        refine lv_iconst (v := 0) (pc := 67) hx hb dX12_reach_67 (by decide) ?_
        refine lv_istore (lv' := [(8, .int 0), (7, .int (F_J6_bitCount ((rK (4 * (tN x) + tN y)) &&& ((rS (4 * (tN x) + tN y)) ^^^ (-1 : Int32))))), (6, .int ((rK (4 * (tN x) + tN y)) &&& ((rS (4 * (tN x) + tN y)) ^^^ (-1 : Int32)))), (5, .int (rS (4 * (tN x) + tN y))), (0, .ref h0), (1, .int (nI (tN x))), (2, .int (nI (tN y))), (3, .int (nI (tN z))), (4, .int (nI (tN t)))]) (pc := 68) hx hb dX12_reach_68 hl (by decide) rfl (fun ls hl => ?_)
        have loop1 : ∀ (fu1 : Nat) (j1 : Nat) (x7_1 : Int32) (x6_1 : Int32), ((tN t) < fu1 + j1) → (j1 ≤ (tN t)) → ((x7_1, x6_1) = L1_X12_reach rL rS rA rB rF rT rW rO x y z (F_J6_bitCount ((rK (4 * (tN x) + tN y)) &&& ((rS (4 * (tN x) + tN y)) ^^^ (-1 : Int32)))) ((rK (4 * (tN x) + tN y)) &&& ((rS (4 * (tN x) + tN y)) ^^^ (-1 : Int32))) j1) → ∀ (H : Heap) (locs : List Loc) (ls : Array Slot), WD g A s H locs [(b7, .inl (g.2.1 1, 11, .inl rL)), (b9, .inl (g.2.1 1, 44, .inl rK)), (b11, .inl (g.2.1 1, 44, .inl rS)), (b12, .inl (g.2.1 1, 132, .inl rA)), (b13, .inl (g.2.1 1, 132, .inl rB)), (b14, .inl (g.2.1 1, 132, .inl rF)), (b15, .inl (g.2.1 1, 132, .inl rT)), (b16, .inl (g.2.1 1, 132, .inl rW)), (b17, .inl (g.2.1 3, 132, .inl rO)), (h0, .inr (12, (vs.set 0 (.int 0))))] → lv_has ls 9 [(8, .int (nI j1)), (7, .int x7_1), (6, .int x6_1), (5, .int (rS (4 * (tN x) + tN y))), (0, .ref h0), (1, .int (nI (tN x))), (2, .int (nI (tN y))), (3, .int (nI (tN z))), (4, .int (nI (tN t)))] → W p l e (RM 3 0 0) s m args below meth c H locs 0 0 Q (F0 m 70 ls []) := by
          intro fu1
          induction fu1 with
          | zero =>
            intro j1 x7_1 x6_1 hm1 hj1 hst1
            exact absurd hm1 (by omega)
          | succ fu1 ih1 =>
            intro j1 x7_1 x6_1 hm1 hj1 hst1 H locs ls hW hl
            refine lv_iload (pc := 70) hx hb dX12_reach_70 (lv_at hl 0 rfl) ?_
            refine lv_iload (pc := 72) hx hb dX12_reach_72 (lv_at hl 8 rfl) ?_
            refine lv_icmp_ge (tgt := 114) (pc := 74) hx hb dX12_reach_74 rfl (fun c20 => ?_) (fun c20 => ?_)
            · have h21 : (tN t) ≤ j1 := (nI_leI (a := (tN t)) (b := j1) (by omega) (by omega)).mp c20
              have hN1 : j1 = (tN t) := by omega
              rw [hN1] at hst1
              have hs1_0 : x7_1 = (L1_X12_reach rL rS rA rB rF rT rW rO x y z (F_J6_bitCount ((rK (4 * (tN x) + tN y)) &&& ((rS (4 * (tN x) + tN y)) ^^^ (-1 : Int32)))) ((rK (4 * (tN x) + tN y)) &&& ((rS (4 * (tN x) + tN y)) ^^^ (-1 : Int32))) (tN t)).1 := congrArg (fun z => z.1) hst1
              have hs1_1 : x6_1 = (L1_X12_reach rL rS rA rB rF rT rW rO x y z (F_J6_bitCount ((rK (4 * (tN x) + tN y)) &&& ((rS (4 * (tN x) + tN y)) ^^^ (-1 : Int32)))) ((rK (4 * (tN x) + tN y)) &&& ((rS (4 * (tN x) + tN y)) ^^^ (-1 : Int32))) (tN t)).2 := congrArg (fun z => z.2) hst1
              clear hst1
              subst hs1_0
              subst hs1_1
              have hW : WD g A s _ _ [(b7, .inl (g.2.1 1, 11, .inl rL)), (b9, .inl (g.2.1 1, 44, .inl rK)), (b11, .inl (g.2.1 1, 44, .inl rS)), (b12, .inl (g.2.1 1, 132, .inl rA)), (b13, .inl (g.2.1 1, 132, .inl rB)), (b14, .inl (g.2.1 1, 132, .inl rF)), (b15, .inl (g.2.1 1, 132, .inl rT)), (b16, .inl (g.2.1 1, 132, .inl rW)), (b17, .inl (g.2.1 3, 132, .inl rO)), (h0, .inr (12, (vs.set 0 (.int 0))))] := hW
              refine lv_iload (pc := 114) hx hb dX12_reach_114 (lv_at hl 1 rfl) ?_
              have hF : F_X12_reach nv rL rK rS rA rB rF rT rW rO x y z t = ((L1_X12_reach rL rS rA rB rF rT rW rO x y z (F_J6_bitCount ((rK (4 * (tN x) + tN y)) &&& ((rS (4 * (tN x) + tN y)) ^^^ (-1 : Int32)))) ((rK (4 * (tN x) + tN y)) &&& ((rS (4 * (tN x) + tN y)) ^^^ (-1 : Int32))) (tN t)).1) := show F_X12_reach nv rL rK rS rA rB rF rT rW rO x y z t = ((L1_X12_reach rL rS rA rB rF rT rW rO x y z (F_J6_bitCount ((rK (4 * (tN x) + tN y)) &&& ((rS (4 * (tN x) + tN y)) ^^^ (-1 : Int32)))) ((rK (4 * (tN x) + tN y)) &&& ((rS (4 * (tN x) + tN y)) ^^^ (-1 : Int32))) (tN t)).1) from by rw [F_X12_reach, if_neg c2, if_neg c6, if_neg c11]
              exact e_i (u := [(h0, .inr (12, (vs.set 0 (.int 0)))), (b7, .inl (g.2.1 1, 11, .inl rL)), (b9, .inl (g.2.1 1, 44, .inl rK)), (b11, .inl (g.2.1 1, 44, .inl rS)), (b12, .inl (g.2.1 1, 132, .inl rA)), (b13, .inl (g.2.1 1, 132, .inl rB)), (b14, .inl (g.2.1 1, 132, .inl rF)), (b15, .inl (g.2.1 1, 132, .inl rT)), (b16, .inl (g.2.1 1, 132, .inl rW)), (b17, .inl (g.2.1 3, 132, .inl rO))]) X hQ hr (hW) [9, 0, 1, 2, 3, 4, 5, 6, 7, 8] rfl rfl (⟨hF.symm, rfl⟩) ⟨Nat.le_of_ble_eq_true rfl, Nat.le_of_ble_eq_true rfl⟩ dX12_reach_116
            · have h22 : ¬ ((tN t) ≤ j1) := fun q => c20 ((nI_leI (a := (tN t)) (b := j1) (by omega) (by omega)).mpr q)
              refine lv_aload_n (pc := 77) hx hb dX12_reach_77 rfl (lv_at hl 4 rfl) ?_
              refine lv_iload_n (pc := 78) hx hb dX12_reach_78 rfl (lv_at hl 5 rfl) ?_
              refine lv_iconst (v := 0) (pc := 79) hx hb dX12_reach_79 (by decide) ?_
              refine lv_iload_n (pc := 80) hx hb dX12_reach_80 rfl (lv_at hl 7 rfl) ?_
              refine lv_iload (pc := 81) hx hb dX12_reach_81 (lv_at hl 0 rfl) ?_
              refine lv_iadd (pc := 83) hx hb dX12_reach_83 ?_
              refine lv_topi (fun v23 ev23 => ?_)
              obtain rfl : v23 = nI (tN z + j1) := ev23.trans (nI_add _ _)
              refine lv_iconst (v := 0) (pc := 84) hx hb dX12_reach_84 (by decide) ?_
              refine lv_iload (pc := 85) hx hb dX12_reach_85 (lv_at hl 2 rfl) ?_
              refine lv_iload (pc := 87) hx hb dX12_reach_87 (lv_at hl 3 rfl) ?_
              refine c_Vi (pc := 89) (As := [.int (nI (tN x)), .int 0, .int (nI (tN z + j1)), .int 0, .int x6_1, .int (rS (4 * (tN x) + tN y))]) (rest := []) (wr := [(b9, .inl (g.2.1 1, 44, .inl rK)), (b11, .inl (g.2.1 1, 44, .inl rS))]) X hW 9 ciX12 rfl (K_X12_spread l g h0 (vs.set 0 (.int 0)) b7 rL b12 rA b13 rB b14 rF b15 rT b16 rW b17 rO (tN x) (tN (rL (tN x))) (0 : Int32) (nI (tN z + j1)) (0 : Int32) x6_1 (rS (4 * (tN x) + tN y)) (sv_len hlen) (sv_ne (k := 0) (by decide) h7_) (sv_ne (k := 0) (by decide) h12_) (sv_ne (k := 0) (by decide) h13_) (sv_ne (k := 0) (by decide) h14_) (sv_ne (k := 0) (by decide) h15_) (sv_ne (k := 0) (by decide) h16_) (sv_ne (k := 0) (by decide) h17_) (by omega) hL12.2 hL12.1) vX12_339 [9, 0, 3, 4, 5, 6, 7, 8] [1, 2] rfl rfl rfl rfl rfl rfl hl.1 rfl (Nat.le_of_ble_eq_true rfl) ⟨Nat.le_of_ble_eq_true rfl, Nat.le_of_ble_eq_true rfl⟩ ⟨Nat.le_of_ble_eq_true rfl, Nat.le_of_ble_eq_true rfl⟩ dX12_reach_89 (fun r24 u9 H locs hq hW => ?_)
              obtain ⟨rfl, rfl⟩ := hq
              have hW : WD g A s _ _ [(b9, .inl (g.2.1 1, 44, .inl rK)), (b11, .inl (g.2.1 1, 44, .inl rS)), (h0, .inr (12, (vs.set 0 (.int 0)))), (b7, .inl (g.2.1 1, 11, .inl rL)), (b12, .inl (g.2.1 1, 132, .inl rA)), (b13, .inl (g.2.1 1, 132, .inl rB)), (b14, .inl (g.2.1 1, 132, .inl rF)), (b15, .inl (g.2.1 1, 132, .inl rT)), (b16, .inl (g.2.1 1, 132, .inl rW)), (b17, .inl (g.2.1 3, 132, .inl rO))] := hW
              refine lv_istore (lv' := [(6, .int (F_X12_spread rA rB rF rT rW rO (tN x) (tN (rL (tN x))) (0 : Int32) (nI (tN z + j1)) (0 : Int32) x6_1 (rS (4 * (tN x) + tN y)))), (8, .int (nI j1)), (7, .int x7_1), (5, .int (rS (4 * (tN x) + tN y))), (0, .ref h0), (1, .int (nI (tN x))), (2, .int (nI (tN y))), (3, .int (nI (tN z))), (4, .int (nI (tN t)))]) (pc := 92) hx hb dX12_reach_92 hl (by decide) rfl (fun ls hl => ?_)
              refine lv_iconst (v := 2) (pc := 94) hx hb dX12_reach_94 (by decide) ?_
              refine lv_iload (pc := 95) hx hb dX12_reach_95 (lv_at hl 2 rfl) ?_
              refine lv_imul (pc := 97) hx hb dX12_reach_97 ?_
              refine lv_iload (pc := 98) hx hb dX12_reach_98 (lv_at hl 0 rfl) ?_
              refine c_Si (pc := 100) (As := [.int (F_X12_spread rA rB rF rT rW rO (tN x) (tN (rL (tN x))) (0 : Int32) (nI (tN z + j1)) (0 : Int32) x6_1 (rS (4 * (tN x) + tN y)))]) (rest := [.int ((2 : Int32) * x7_1)]) (wr := [(b9, .inl (g.2.1 1, 44, .inl rK)), (b11, .inl (g.2.1 1, 44, .inl rS)), (h0, .inr (12, (vs.set 0 (.int 0)))), (b7, .inl (g.2.1 1, 11, .inl rL)), (b12, .inl (g.2.1 1, 132, .inl rA)), (b13, .inl (g.2.1 1, 132, .inl rB)), (b14, .inl (g.2.1 1, 132, .inl rF)), (b15, .inl (g.2.1 1, 132, .inl rT)), (b16, .inl (g.2.1 1, 132, .inl rW)), (b17, .inl (g.2.1 3, 132, .inl rO))]) X hW (K_J6_bitCount l g (F_X12_spread rA rB rF rT rW rO (tN x) (tN (rL (tN x))) (0 : Int32) (nI (tN z + j1)) (0 : Int32) x6_1 (rS (4 * (tN x) + tN y)))) vX12_334 [] [0, 1, 2, 3, 4, 5, 6, 7, 8, 9] rfl rfl rfl rfl rfl rfl hl.1 rfl (Nat.le_of_ble_eq_true rfl) ⟨Nat.le_of_ble_eq_true rfl, Nat.le_of_ble_eq_true rfl⟩ ⟨Nat.le_of_ble_eq_true rfl, Nat.le_of_ble_eq_true rfl⟩ dX12_reach_100 (fun r25 u9 H locs hq hW => ?_)
              obtain ⟨rfl, rfl⟩ := hq
              have hW : WD g A s _ _ [(b9, .inl (g.2.1 1, 44, .inl rK)), (b11, .inl (g.2.1 1, 44, .inl rS)), (h0, .inr (12, (vs.set 0 (.int 0)))), (b7, .inl (g.2.1 1, 11, .inl rL)), (b12, .inl (g.2.1 1, 132, .inl rA)), (b13, .inl (g.2.1 1, 132, .inl rB)), (b14, .inl (g.2.1 1, 132, .inl rF)), (b15, .inl (g.2.1 1, 132, .inl rT)), (b16, .inl (g.2.1 1, 132, .inl rW)), (b17, .inl (g.2.1 3, 132, .inl rO))] := hW
              refine va_mmin (pc := 103) hx hb (X.2.2.1.trans hl.1.symm) X.2.2.2.1 (X.2.2.2.2.1 _ mm_X12_103) (X.2.2.2.2.1 _ mms_min) (X.2.2.2.2.1 _ m_19) (X.2.2.2.2.1 _ mmc_min) (Nat.le_of_ble_eq_true rfl) (Nat.le_of_ble_eq_true rfl) (Nat.le_of_ble_eq_true rfl) (Nat.le_of_ble_eq_true rfl) dX12_reach_103 ?_
              refine lv_topi (fun v26 ev26 => ?_)
              obtain rfl : v26 = mn2 ((2 : Int32) * x7_1) (F_J6_bitCount (F_X12_spread rA rB rF rT rW rO (tN x) (tN (rL (tN x))) (0 : Int32) (nI (tN z + j1)) (0 : Int32) x6_1 (rS (4 * (tN x) + tN y)))) := ev26.trans (rfl)
              refine lv_istore (lv' := [(7, .int (mn2 ((2 : Int32) * x7_1) (F_J6_bitCount (F_X12_spread rA rB rF rT rW rO (tN x) (tN (rL (tN x))) (0 : Int32) (nI (tN z + j1)) (0 : Int32) x6_1 (rS (4 * (tN x) + tN y)))))), (6, .int (F_X12_spread rA rB rF rT rW rO (tN x) (tN (rL (tN x))) (0 : Int32) (nI (tN z + j1)) (0 : Int32) x6_1 (rS (4 * (tN x) + tN y)))), (8, .int (nI j1)), (5, .int (rS (4 * (tN x) + tN y))), (0, .ref h0), (1, .int (nI (tN x))), (2, .int (nI (tN y))), (3, .int (nI (tN z))), (4, .int (nI (tN t)))]) (pc := 106) hx hb dX12_reach_106 hl (by decide) rfl (fun ls hl => ?_)
              refine lv_iinc (v := nI (j1 + 1)) (lv' := [(8, .int (nI (j1 + 1))), (7, .int (mn2 ((2 : Int32) * x7_1) (F_J6_bitCount (F_X12_spread rA rB rF rT rW rO (tN x) (tN (rL (tN x))) (0 : Int32) (nI (tN z + j1)) (0 : Int32) x6_1 (rS (4 * (tN x) + tN y)))))), (6, .int (F_X12_spread rA rB rF rT rW rO (tN x) (tN (rL (tN x))) (0 : Int32) (nI (tN z + j1)) (0 : Int32) x6_1 (rS (4 * (tN x) + tN y)))), (5, .int (rS (4 * (tN x) + tN y))), (0, .ref h0), (1, .int (nI (tN x))), (2, .int (nI (tN y))), (3, .int (nI (tN z))), (4, .int (nI (tN t)))]) (pc := 108) hx hb dX12_reach_108 hl (k := 2) rfl (nI_add j1 1) (by decide) rfl (fun ls hl => ?_)
              refine lv_goto (tgt := 70) (pc := 111) hx hb dX12_reach_111 rfl ?_
              have hW : WD g A s _ _ [(b7, .inl (g.2.1 1, 11, .inl rL)), (b9, .inl (g.2.1 1, 44, .inl rK)), (b11, .inl (g.2.1 1, 44, .inl rS)), (b12, .inl (g.2.1 1, 132, .inl rA)), (b13, .inl (g.2.1 1, 132, .inl rB)), (b14, .inl (g.2.1 1, 132, .inl rF)), (b15, .inl (g.2.1 1, 132, .inl rT)), (b16, .inl (g.2.1 1, 132, .inl rW)), (b17, .inl (g.2.1 3, 132, .inl rO)), (h0, .inr (12, (vs.set 0 (.int 0))))] := hW.pick [3, 0, 1, 4, 5, 6, 7, 8, 9, 2] rfl rfl
              exact ih1 (j1 + 1) (mn2 ((2 : Int32) * x7_1) (F_J6_bitCount (F_X12_spread rA rB rF rT rW rO (tN x) (tN (rL (tN x))) (0 : Int32) (nI (tN z + j1)) (0 : Int32) x6_1 (rS (4 * (tN x) + tN y))))) (F_X12_spread rA rB rF rT rW rO (tN x) (tN (rL (tN x))) (0 : Int32) (nI (tN z + j1)) (0 : Int32) x6_1 (rS (4 * (tN x) + tN y))) (by omega) (by omega) (by rw [L1_X12_reach, ← hst1]; exact (show L1_X12_reachs rL rS rA rB rF rT rW rO x y z j1 x7_1 x6_1 = (mn2 ((2 : Int32) * x7_1) (F_J6_bitCount (F_X12_spread rA rB rF rT rW rO (tN x) (tN (rL (tN x))) (0 : Int32) (nI (tN z + j1)) (0 : Int32) x6_1 (rS (4 * (tN x) + tN y)))), F_X12_spread rA rB rF rT rW rO (tN x) (tN (rL (tN x))) (0 : Int32) (nI (tN z + j1)) (0 : Int32) x6_1 (rS (4 * (tN x) + tN y))) from rfl).symm) _ _ _ hW (lv_sub hl [0, 1, 2, 3, 4, 5, 6, 7, 8] rfl)
        exact loop1 ((tN t) + 1) 0 (F_J6_bitCount ((rK (4 * (tN x) + tN y)) &&& ((rS (4 * (tN x) + tN y)) ^^^ (-1 : Int32)))) ((rK (4 * (tN x) + tN y)) &&& ((rS (4 * (tN x) + tN y)) ^^^ (-1 : Int32))) (by omega) (by omega) rfl _ _ _ hW (lv_sub hl [0, 1, 2, 3, 4, 5, 6, 7, 8] rfl)
      · refine lv_iconst (v := (-1)) (pc := 29) hx hb dX12_reach_29 (by decide) ?_
        have hF : F_X12_reach nv rL rK rS rA rB rF rT rW rO x y z t = (-1 : Int32) := show F_X12_reach nv rL rK rS rA rB rF rT rW rO x y z t = (-1 : Int32) from by rw [F_X12_reach, if_neg c2, if_neg c6, if_pos c11]
        exact e_i (u := [(h0, .inr (12, (vs.set 0 (.int 0)))), (b7, .inl (g.2.1 1, 11, .inl rL)), (b9, .inl (g.2.1 1, 44, .inl rK)), (b11, .inl (g.2.1 1, 44, .inl rS)), (b12, .inl (g.2.1 1, 132, .inl rA)), (b13, .inl (g.2.1 1, 132, .inl rB)), (b14, .inl (g.2.1 1, 132, .inl rF)), (b15, .inl (g.2.1 1, 132, .inl rT)), (b16, .inl (g.2.1 1, 132, .inl rW)), (b17, .inl (g.2.1 3, 132, .inl rO))]) X hQ hr (hW) [9, 0, 1, 2, 3, 4, 5, 6, 7, 8] rfl rfl (⟨hF.symm, rfl⟩) ⟨Nat.le_of_ble_eq_true rfl, Nat.le_of_ble_eq_true rfl⟩ dX12_reach_30

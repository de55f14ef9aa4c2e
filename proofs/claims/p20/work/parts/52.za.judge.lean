theorem dX4_verdictOf_0 : decode cX4_verdictOf 0 = .ok (.iload_n 1, 1) := DX4_verdictOf _ _ _ rfl
theorem dX4_verdictOf_1 : decode cX4_verdictOf 1 = .ok (.ifCond .ne 5, 3) := DX4_verdictOf _ _ _ rfl
theorem dX4_verdictOf_6 : decode cX4_verdictOf 6 = .ok (.iload_n 2, 1) := DX4_verdictOf _ _ _ rfl
theorem dX4_verdictOf_7 : decode cX4_verdictOf 7 = .ok (.iload_n 0, 1) := DX4_verdictOf _ _ _ rfl
theorem dX4_verdictOf_8 : decode cX4_verdictOf 8 = .ok (.invokestatic 55, 3) := DX4_verdictOf _ _ _ rfl
theorem dX4_verdictOf_11 : decode cX4_verdictOf 11 = .ok (.ifCond .eq 5, 3) := DX4_verdictOf _ _ _ rfl
theorem dX4_verdictOf_16 : decode cX4_verdictOf 16 = .ok (.iload_n 1, 1) := DX4_verdictOf _ _ _ rfl
theorem dX4_verdictOf_17 : decode cX4_verdictOf 17 = .ok (.iload_n 2, 1) := DX4_verdictOf _ _ _ rfl
theorem dX4_verdictOf_18 : decode cX4_verdictOf 18 = .ok (.iand, 1) := DX4_verdictOf _ _ _ rfl
theorem dX4_verdictOf_19 : decode cX4_verdictOf 19 = .ok (.ifCond .eq 7, 3) := DX4_verdictOf _ _ _ rfl
theorem dX4_verdictOf_26 : decode cX4_verdictOf 26 = .ok (.iconst 0, 1) := DX4_verdictOf _ _ _ rfl
theorem dX4_verdictOf_27 : decode cX4_verdictOf 27 = .ok (.ireturn, 1) := DX4_verdictOf _ _ _ rfl
theorem dX4_verdictOf_22 : decode cX4_verdictOf 22 = .ok (.iconst 3, 1) := DX4_verdictOf _ _ _ rfl
theorem dX4_verdictOf_23 : decode cX4_verdictOf 23 = .ok (.goto 4, 3) := DX4_verdictOf _ _ _ rfl
theorem dX4_verdictOf_14 : decode cX4_verdictOf 14 = .ok (.iconst 2, 1) := DX4_verdictOf _ _ _ rfl
theorem dX4_verdictOf_15 : decode cX4_verdictOf 15 = .ok (.ireturn, 1) := DX4_verdictOf _ _ _ rfl
theorem dX4_verdictOf_4 : decode cX4_verdictOf 4 = .ok (.iconst 1, 1) := DX4_verdictOf _ _ _ rfl
theorem dX4_verdictOf_5 : decode cX4_verdictOf 5 = .ok (.ireturn, 1) := DX4_verdictOf _ _ _ rfl
theorem dX4_judge_0 : decode cX4_judge 0 = .ok (.iconst 0, 1) := DX4_judge _ _ _ rfl
theorem dX4_judge_1 : decode cX4_judge 1 = .ok (.istore_n 1, 1) := DX4_judge _ _ _ rfl
theorem dX4_judge_2 : decode cX4_judge 2 = .ok (.iconst 0, 1) := DX4_judge _ _ _ rfl
theorem dX4_judge_3 : decode cX4_judge 3 = .ok (.istore_n 2, 1) := DX4_judge _ _ _ rfl
theorem dX4_judge_4 : decode cX4_judge 4 = .ok (.iconst 0, 1) := DX4_judge _ _ _ rfl
theorem dX4_judge_5 : decode cX4_judge 5 = .ok (.istore_n 3, 1) := DX4_judge _ _ _ rfl
theorem dX4_judge_6 : decode cX4_judge 6 = .ok (.iload_n 3, 1) := DX4_judge _ _ _ rfl
theorem dX4_judge_7 : decode cX4_judge 7 = .ok (.aload_n 0, 1) := DX4_judge _ _ _ rfl
theorem dX4_judge_8 : decode cX4_judge 8 = .ok (.getfield 37, 3) := DX4_judge _ _ _ rfl
theorem dX4_judge_11 : decode cX4_judge 11 = .ok (.if_icmp .ge 138, 3) := DX4_judge _ _ _ rfl
theorem dX4_judge_149 : decode cX4_judge 149 = .ok (.return_, 1) := DX4_judge _ _ _ rfl
theorem dX4_judge_14 : decode cX4_judge 14 = .ok (.aload_n 0, 1) := DX4_judge _ _ _ rfl
theorem dX4_judge_15 : decode cX4_judge 15 = .ok (.getfield 24, 3) := DX4_judge _ _ _ rfl
theorem dX4_judge_18 : decode cX4_judge 18 = .ok (.iload_n 3, 1) := DX4_judge _ _ _ rfl
theorem dX4_judge_19 : decode cX4_judge 19 = .ok (.iaload, 1) := DX4_judge _ _ _ rfl
theorem dX4_judge_20 : decode cX4_judge 20 = .ok (.istore 4, 2) := DX4_judge _ _ _ rfl
theorem dX4_judge_22 : decode cX4_judge 22 = .ok (.aload_n 0, 1) := DX4_judge _ _ _ rfl
theorem dX4_judge_23 : decode cX4_judge 23 = .ok (.getfield 11, 3) := DX4_judge _ _ _ rfl
theorem dX4_judge_26 : decode cX4_judge 26 = .ok (.iload 4, 2) := DX4_judge _ _ _ rfl
theorem dX4_judge_28 : decode cX4_judge 28 = .ok (.iaload, 1) := DX4_judge _ _ _ rfl
theorem dX4_judge_29 : decode cX4_judge 29 = .ok (.iload_n 1, 1) := DX4_judge _ _ _ rfl
theorem dX4_judge_30 : decode cX4_judge 30 = .ok (.if_icmp .eq 13, 3) := DX4_judge _ _ _ rfl
theorem dX4_judge_43 : decode cX4_judge 43 = .ok (.aload_n 0, 1) := DX4_judge _ _ _ rfl
theorem dX4_judge_44 : decode cX4_judge 44 = .ok (.getfield 18, 3) := DX4_judge _ _ _ rfl
theorem dX4_judge_47 : decode cX4_judge 47 = .ok (.iload 4, 2) := DX4_judge _ _ _ rfl
theorem dX4_judge_49 : decode cX4_judge 49 = .ok (.iaload, 1) := DX4_judge _ _ _ rfl
theorem dX4_judge_50 : decode cX4_judge 50 = .ok (.istore 5, 2) := DX4_judge _ _ _ rfl
theorem dX4_judge_52 : decode cX4_judge 52 = .ok (.aload_n 0, 1) := DX4_judge _ _ _ rfl
theorem dX4_judge_53 : decode cX4_judge 53 = .ok (.getfield 15, 3) := DX4_judge _ _ _ rfl
theorem dX4_judge_56 : decode cX4_judge 56 = .ok (.iload 4, 2) := DX4_judge _ _ _ rfl
theorem dX4_judge_58 : decode cX4_judge 58 = .ok (.iaload, 1) := DX4_judge _ _ _ rfl
theorem dX4_judge_59 : decode cX4_judge 59 = .ok (.iconst 3, 1) := DX4_judge _ _ _ rfl
theorem dX4_judge_60 : decode cX4_judge 60 = .ok (.if_icmp .ne 7, 3) := DX4_judge _ _ _ rfl
theorem dX4_judge_67 : decode cX4_judge 67 = .ok (.iconst 1, 1) := DX4_judge _ _ _ rfl
theorem dX4_judge_68 : decode cX4_judge 68 = .ok (.aload_n 0, 1) := DX4_judge _ _ _ rfl
theorem dX4_judge_69 : decode cX4_judge 69 = .ok (.getfield 21, 3) := DX4_judge _ _ _ rfl
theorem dX4_judge_72 : decode cX4_judge 72 = .ok (.iload 4, 2) := DX4_judge _ _ _ rfl
theorem dX4_judge_74 : decode cX4_judge 74 = .ok (.iaload, 1) := DX4_judge _ _ _ rfl
theorem dX4_judge_75 : decode cX4_judge 75 = .ok (.ishl, 1) := DX4_judge _ _ _ rfl
theorem dX4_judge_76 : decode cX4_judge 76 = .ok (.istore 6, 2) := DX4_judge _ _ _ rfl
theorem dX4_judge_78 : decode cX4_judge 78 = .ok (.aload_n 0, 1) := DX4_judge _ _ _ rfl
theorem dX4_judge_79 : decode cX4_judge 79 = .ok (.getfield 30, 3) := DX4_judge _ _ _ rfl
theorem dX4_judge_82 : decode cX4_judge 82 = .ok (.iload 4, 2) := DX4_judge _ _ _ rfl
theorem dX4_judge_84 : decode cX4_judge 84 = .ok (.iload 6, 2) := DX4_judge _ _ _ rfl
theorem dX4_judge_86 : decode cX4_judge 86 = .ok (.aload_n 0, 1) := DX4_judge _ _ _ rfl
theorem dX4_judge_87 : decode cX4_judge 87 = .ok (.getfield 33, 3) := DX4_judge _ _ _ rfl
theorem dX4_judge_90 : decode cX4_judge 90 = .ok (.iload 5, 2) := DX4_judge _ _ _ rfl
theorem dX4_judge_92 : decode cX4_judge 92 = .ok (.iload_n 1, 1) := DX4_judge _ _ _ rfl
theorem dX4_judge_93 : decode cX4_judge 93 = .ok (.invokevirtual 45, 3) := DX4_judge _ _ _ rfl
theorem dX4_judge_96 : decode cX4_judge 96 = .ok (.iand, 1) := DX4_judge _ _ _ rfl
theorem dX4_judge_97 : decode cX4_judge 97 = .ok (.iastore, 1) := DX4_judge _ _ _ rfl
theorem dX4_judge_98 : decode cX4_judge 98 = .ok (.aload_n 0, 1) := DX4_judge _ _ _ rfl
theorem dX4_judge_99 : decode cX4_judge 99 = .ok (.getfield 27, 3) := DX4_judge _ _ _ rfl
theorem dX4_judge_102 : decode cX4_judge 102 = .ok (.iload 4, 2) := DX4_judge _ _ _ rfl
theorem dX4_judge_104 : decode cX4_judge 104 = .ok (.iload 5, 2) := DX4_judge _ _ _ rfl
theorem dX4_judge_106 : decode cX4_judge 106 = .ok (.aload_n 0, 1) := DX4_judge _ _ _ rfl
theorem dX4_judge_107 : decode cX4_judge 107 = .ok (.getfield 30, 3) := DX4_judge _ _ _ rfl
theorem dX4_judge_110 : decode cX4_judge 110 = .ok (.iload 4, 2) := DX4_judge _ _ _ rfl
theorem dX4_judge_112 : decode cX4_judge 112 = .ok (.iaload, 1) := DX4_judge _ _ _ rfl
theorem dX4_judge_113 : decode cX4_judge 113 = .ok (.iload_n 2, 1) := DX4_judge _ _ _ rfl
theorem dX4_judge_114 : decode cX4_judge 114 = .ok (.invokestatic 51, 3) := DX4_judge _ _ _ rfl
theorem dX4_judge_117 : decode cX4_judge 117 = .ok (.iastore, 1) := DX4_judge _ _ _ rfl
theorem dX4_judge_118 : decode cX4_judge 118 = .ok (.aload_n 0, 1) := DX4_judge _ _ _ rfl
theorem dX4_judge_119 : decode cX4_judge 119 = .ok (.getfield 27, 3) := DX4_judge _ _ _ rfl
theorem dX4_judge_122 : decode cX4_judge 122 = .ok (.iload 4, 2) := DX4_judge _ _ _ rfl
theorem dX4_judge_124 : decode cX4_judge 124 = .ok (.iaload, 1) := DX4_judge _ _ _ rfl
theorem dX4_judge_125 : decode cX4_judge 125 = .ok (.ifCond .ne 18, 3) := DX4_judge _ _ _ rfl
theorem dX4_judge_143 : decode cX4_judge 143 = .ok (.iinc 3 1, 3) := DX4_judge _ _ _ rfl
theorem dX4_judge_146 : decode cX4_judge 146 = .ok (.goto (-140), 3) := DX4_judge _ _ _ rfl
theorem dX4_judge_128 : decode cX4_judge 128 = .ok (.iload_n 2, 1) := DX4_judge _ _ _ rfl
theorem dX4_judge_129 : decode cX4_judge 129 = .ok (.iconst 1, 1) := DX4_judge _ _ _ rfl
theorem dX4_judge_130 : decode cX4_judge 130 = .ok (.iload 5, 2) := DX4_judge _ _ _ rfl
theorem dX4_judge_132 : decode cX4_judge 132 = .ok (.ishl, 1) := DX4_judge _ _ _ rfl
theorem dX4_judge_133 : decode cX4_judge 133 = .ok (.aload_n 0, 1) := DX4_judge _ _ _ rfl
theorem dX4_judge_134 : decode cX4_judge 134 = .ok (.getfield 30, 3) := DX4_judge _ _ _ rfl
theorem dX4_judge_137 : decode cX4_judge 137 = .ok (.iload 4, 2) := DX4_judge _ _ _ rfl
theorem dX4_judge_139 : decode cX4_judge 139 = .ok (.iaload, 1) := DX4_judge _ _ _ rfl
theorem dX4_judge_140 : decode cX4_judge 140 = .ok (.ior, 1) := DX4_judge _ _ _ rfl
theorem dX4_judge_141 : decode cX4_judge 141 = .ok (.ior, 1) := DX4_judge _ _ _ rfl
theorem dX4_judge_142 : decode cX4_judge 142 = .ok (.istore_n 2, 1) := DX4_judge _ _ _ rfl
theorem dX4_judge_63 : decode cX4_judge 63 = .ok (.iconst (-1), 1) := DX4_judge _ _ _ rfl
theorem dX4_judge_64 : decode cX4_judge 64 = .ok (.goto 12, 3) := DX4_judge _ _ _ rfl
theorem dX4_judge_33 : decode cX4_judge 33 = .ok (.aload_n 0, 1) := DX4_judge _ _ _ rfl
theorem dX4_judge_34 : decode cX4_judge 34 = .ok (.getfield 11, 3) := DX4_judge _ _ _ rfl
theorem dX4_judge_37 : decode cX4_judge 37 = .ok (.iload 4, 2) := DX4_judge _ _ _ rfl
theorem dX4_judge_39 : decode cX4_judge 39 = .ok (.iaload, 1) := DX4_judge _ _ _ rfl
theorem dX4_judge_40 : decode cX4_judge 40 = .ok (.istore_n 1, 1) := DX4_judge _ _ _ rfl
theorem dX4_judge_41 : decode cX4_judge 41 = .ok (.iconst 0, 1) := DX4_judge _ _ _ rfl
theorem dX4_judge_42 : decode cX4_judge 42 = .ok (.istore_n 2, 1) := DX4_judge _ _ _ rfl
theorem dX12_reaches_0 : decode cX12_reaches 0 = .ok (.aload_n 0, 1) := DX12_reaches _ _ _ rfl
theorem dX12_reaches_1 : decode cX12_reaches 1 = .ok (.getfield 58, 3) := DX12_reaches _ _ _ rfl
theorem dX12_reaches_4 : decode cX12_reaches 4 = .ok (.iload_n 1, 1) := DX12_reaches _ _ _ rfl
theorem dX12_reaches_5 : decode cX12_reaches 5 = .ok (.iaload, 1) := DX12_reaches _ _ _ rfl
theorem dX12_reaches_6 : decode cX12_reaches 6 = .ok (.istore_n 3, 1) := DX12_reaches _ _ _ rfl
theorem dX12_reaches_7 : decode cX12_reaches 7 = .ok (.aload_n 0, 1) := DX12_reaches _ _ _ rfl
theorem dX12_reaches_8 : decode cX12_reaches 8 = .ok (.getfield 67, 3) := DX12_reaches _ _ _ rfl
theorem dX12_reaches_11 : decode cX12_reaches 11 = .ok (.iload_n 2, 1) := DX12_reaches _ _ _ rfl
theorem dX12_reaches_12 : decode cX12_reaches 12 = .ok (.iaload, 1) := DX12_reaches _ _ _ rfl
theorem dX12_reaches_13 : decode cX12_reaches 13 = .ok (.iconst 3, 1) := DX12_reaches _ _ _ rfl
theorem dX12_reaches_14 : decode cX12_reaches 14 = .ok (.if_icmp .eq 42, 3) := DX12_reaches _ _ _ rfl
theorem dX12_reaches_56 : decode cX12_reaches 56 = .ok (.iconst 0, 1) := DX12_reaches _ _ _ rfl
theorem dX12_reaches_57 : decode cX12_reaches 57 = .ok (.istore 4, 2) := DX12_reaches _ _ _ rfl
theorem dX12_reaches_59 : decode cX12_reaches 59 = .ok (.iconst 0, 1) := DX12_reaches _ _ _ rfl
theorem dX12_reaches_60 : decode cX12_reaches 60 = .ok (.istore 5, 2) := DX12_reaches _ _ _ rfl
theorem dX12_reaches_62 : decode cX12_reaches 62 = .ok (.iload 5, 2) := DX12_reaches _ _ _ rfl
theorem dX12_reaches_64 : decode cX12_reaches 64 = .ok (.aload_n 0, 1) := DX12_reaches _ _ _ rfl
theorem dX12_reaches_65 : decode cX12_reaches 65 = .ok (.getfield 13, 3) := DX12_reaches _ _ _ rfl
theorem dX12_reaches_68 : decode cX12_reaches 68 = .ok (.iload_n 3, 1) := DX12_reaches _ _ _ rfl
theorem dX12_reaches_69 : decode cX12_reaches 69 = .ok (.iaload, 1) := DX12_reaches _ _ _ rfl
theorem dX12_reaches_70 : decode cX12_reaches 70 = .ok (.if_icmp .ge 51, 3) := DX12_reaches _ _ _ rfl
theorem dX12_reaches_121 : decode cX12_reaches 121 = .ok (.iload 4, 2) := DX12_reaches _ _ _ rfl
theorem dX12_reaches_123 : decode cX12_reaches 123 = .ok (.ireturn, 1) := DX12_reaches _ _ _ rfl
theorem dX12_reaches_73 : decode cX12_reaches 73 = .ok (.iload 5, 2) := DX12_reaches _ _ _ rfl
theorem dX12_reaches_75 : decode cX12_reaches 75 = .ok (.aload_n 0, 1) := DX12_reaches _ _ _ rfl
theorem dX12_reaches_76 : decode cX12_reaches 76 = .ok (.getfield 70, 3) := DX12_reaches _ _ _ rfl
theorem dX12_reaches_79 : decode cX12_reaches 79 = .ok (.iload_n 2, 1) := DX12_reaches _ _ _ rfl
theorem dX12_reaches_80 : decode cX12_reaches 80 = .ok (.iaload, 1) := DX12_reaches _ _ _ rfl
theorem dX12_reaches_81 : decode cX12_reaches 81 = .ok (.if_icmp .eq 34, 3) := DX12_reaches _ _ _ rfl
theorem dX12_reaches_115 : decode cX12_reaches 115 = .ok (.iinc 5 1, 3) := DX12_reaches _ _ _ rfl
theorem dX12_reaches_118 : decode cX12_reaches 118 = .ok (.goto (-56), 3) := DX12_reaches _ _ _ rfl
theorem dX12_reaches_84 : decode cX12_reaches 84 = .ok (.aload_n 0, 1) := DX12_reaches _ _ _ rfl
theorem dX12_reaches_85 : decode cX12_reaches 85 = .ok (.iload_n 3, 1) := DX12_reaches _ _ _ rfl
theorem dX12_reaches_86 : decode cX12_reaches 86 = .ok (.aload_n 0, 1) := DX12_reaches _ _ _ rfl
theorem dX12_reaches_87 : decode cX12_reaches 87 = .ok (.getfield 70, 3) := DX12_reaches _ _ _ rfl
theorem dX12_reaches_90 : decode cX12_reaches 90 = .ok (.iload_n 2, 1) := DX12_reaches _ _ _ rfl
theorem dX12_reaches_91 : decode cX12_reaches 91 = .ok (.iaload, 1) := DX12_reaches _ _ _ rfl
theorem dX12_reaches_92 : decode cX12_reaches 92 = .ok (.iload 5, 2) := DX12_reaches _ _ _ rfl
theorem dX12_reaches_94 : decode cX12_reaches 94 = .ok (.aload_n 0, 1) := DX12_reaches _ _ _ rfl
theorem dX12_reaches_95 : decode cX12_reaches 95 = .ok (.getfield 64, 3) := DX12_reaches _ _ _ rfl
theorem dX12_reaches_98 : decode cX12_reaches 98 = .ok (.iload_n 2, 1) := DX12_reaches _ _ _ rfl
theorem dX12_reaches_99 : decode cX12_reaches 99 = .ok (.iaload, 1) := DX12_reaches _ _ _ rfl
theorem dX12_reaches_100 : decode cX12_reaches 100 = .ok (.invokevirtual 240, 3) := DX12_reaches _ _ _ rfl
theorem dX12_reaches_103 : decode cX12_reaches 103 = .ok (.ifCond .eq 12, 3) := DX12_reaches _ _ _ rfl
theorem dX12_reaches_106 : decode cX12_reaches 106 = .ok (.iload 4, 2) := DX12_reaches _ _ _ rfl
theorem dX12_reaches_108 : decode cX12_reaches 108 = .ok (.iconst 1, 1) := DX12_reaches _ _ _ rfl
theorem dX12_reaches_109 : decode cX12_reaches 109 = .ok (.iload 5, 2) := DX12_reaches _ _ _ rfl
theorem dX12_reaches_111 : decode cX12_reaches 111 = .ok (.ishl, 1) := DX12_reaches _ _ _ rfl
theorem dX12_reaches_112 : decode cX12_reaches 112 = .ok (.ior, 1) := DX12_reaches _ _ _ rfl
theorem dX12_reaches_113 : decode cX12_reaches 113 = .ok (.istore 4, 2) := DX12_reaches _ _ _ rfl
theorem dX12_reaches_17 : decode cX12_reaches 17 = .ok (.aload_n 0, 1) := DX12_reaches _ _ _ rfl
theorem dX12_reaches_18 : decode cX12_reaches 18 = .ok (.iload_n 3, 1) := DX12_reaches _ _ _ rfl
theorem dX12_reaches_19 : decode cX12_reaches 19 = .ok (.aload_n 0, 1) := DX12_reaches _ _ _ rfl
theorem dX12_reaches_20 : decode cX12_reaches 20 = .ok (.getfield 70, 3) := DX12_reaches _ _ _ rfl
theorem dX12_reaches_23 : decode cX12_reaches 23 = .ok (.iload_n 2, 1) := DX12_reaches _ _ _ rfl
theorem dX12_reaches_24 : decode cX12_reaches 24 = .ok (.iaload, 1) := DX12_reaches _ _ _ rfl
theorem dX12_reaches_25 : decode cX12_reaches 25 = .ok (.aload_n 0, 1) := DX12_reaches _ _ _ rfl
theorem dX12_reaches_26 : decode cX12_reaches 26 = .ok (.getfield 73, 3) := DX12_reaches _ _ _ rfl
theorem dX12_reaches_29 : decode cX12_reaches 29 = .ok (.iload_n 2, 1) := DX12_reaches _ _ _ rfl
theorem dX12_reaches_30 : decode cX12_reaches 30 = .ok (.iaload, 1) := DX12_reaches _ _ _ rfl
theorem dX12_reaches_31 : decode cX12_reaches 31 = .ok (.aload_n 0, 1) := DX12_reaches _ _ _ rfl
theorem dX12_reaches_32 : decode cX12_reaches 32 = .ok (.getfield 64, 3) := DX12_reaches _ _ _ rfl
theorem dX12_reaches_35 : decode cX12_reaches 35 = .ok (.iload_n 2, 1) := DX12_reaches _ _ _ rfl
theorem dX12_reaches_36 : decode cX12_reaches 36 = .ok (.iaload, 1) := DX12_reaches _ _ _ rfl
theorem dX12_reaches_37 : decode cX12_reaches 37 = .ok (.invokevirtual 240, 3) := DX12_reaches _ _ _ rfl
theorem dX12_reaches_40 : decode cX12_reaches 40 = .ok (.ifCond .eq 14, 3) := DX12_reaches _ _ _ rfl
theorem dX12_reaches_54 : decode cX12_reaches 54 = .ok (.iconst 0, 1) := DX12_reaches _ _ _ rfl
theorem dX12_reaches_55 : decode cX12_reaches 55 = .ok (.ireturn, 1) := DX12_reaches _ _ _ rfl
theorem dX12_reaches_43 : decode cX12_reaches 43 = .ok (.iconst 1, 1) := DX12_reaches _ _ _ rfl
theorem dX12_reaches_44 : decode cX12_reaches 44 = .ok (.aload_n 0, 1) := DX12_reaches _ _ _ rfl
theorem dX12_reaches_45 : decode cX12_reaches 45 = .ok (.getfield 73, 3) := DX12_reaches _ _ _ rfl
theorem dX12_reaches_48 : decode cX12_reaches 48 = .ok (.iload_n 2, 1) := DX12_reaches _ _ _ rfl
theorem dX12_reaches_49 : decode cX12_reaches 49 = .ok (.iaload, 1) := DX12_reaches _ _ _ rfl
theorem dX12_reaches_50 : decode cX12_reaches 50 = .ok (.ishl, 1) := DX12_reaches _ _ _ rfl
theorem dX12_reaches_51 : decode cX12_reaches 51 = .ok (.goto 4, 3) := DX12_reaches _ _ _ rfl
theorem dX12_judge_0 : decode cX12_judge 0 = .ok (.iconst 1, 1) := DX12_judge _ _ _ rfl
theorem dX12_judge_1 : decode cX12_judge 1 = .ok (.istore_n 2, 1) := DX12_judge _ _ _ rfl
theorem dX12_judge_2 : decode cX12_judge 2 = .ok (.iload_n 2, 1) := DX12_judge _ _ _ rfl
theorem dX12_judge_3 : decode cX12_judge 3 = .ok (.bipush 24, 2) := DX12_judge _ _ _ rfl
theorem dX12_judge_5 : decode cX12_judge 5 = .ok (.if_icmp .gt 155, 3) := DX12_judge _ _ _ rfl
theorem dX12_judge_160 : decode cX12_judge 160 = .ok (.return_, 1) := DX12_judge _ _ _ rfl
theorem dX12_judge_8 : decode cX12_judge 8 = .ok (.iconst 0, 1) := DX12_judge _ _ _ rfl
theorem dX12_judge_9 : decode cX12_judge 9 = .ok (.istore_n 3, 1) := DX12_judge _ _ _ rfl
theorem dX12_judge_10 : decode cX12_judge 10 = .ok (.iconst 0, 1) := DX12_judge _ _ _ rfl
theorem dX12_judge_11 : decode cX12_judge 11 = .ok (.istore 4, 2) := DX12_judge _ _ _ rfl
theorem dX12_judge_13 : decode cX12_judge 13 = .ok (.iload 4, 2) := DX12_judge _ _ _ rfl
theorem dX12_judge_15 : decode cX12_judge 15 = .ok (.aload_n 0, 1) := DX12_judge _ _ _ rfl
theorem dX12_judge_16 : decode cX12_judge 16 = .ok (.getfield 61, 3) := DX12_judge _ _ _ rfl
theorem dX12_judge_19 : decode cX12_judge 19 = .ok (.iload_n 1, 1) := DX12_judge _ _ _ rfl
theorem dX12_judge_20 : decode cX12_judge 20 = .ok (.iaload, 1) := DX12_judge _ _ _ rfl
theorem dX12_judge_21 : decode cX12_judge 21 = .ok (.if_icmp .ge 133, 3) := DX12_judge _ _ _ rfl
theorem dX12_judge_154 : decode cX12_judge 154 = .ok (.iinc 2 1, 3) := DX12_judge _ _ _ rfl
theorem dX12_judge_157 : decode cX12_judge 157 = .ok (.goto (-155), 3) := DX12_judge _ _ _ rfl
theorem dX12_judge_24 : decode cX12_judge 24 = .ok (.bipush 40, 2) := DX12_judge _ _ _ rfl
theorem dX12_judge_26 : decode cX12_judge 26 = .ok (.iload_n 1, 1) := DX12_judge _ _ _ rfl
theorem dX12_judge_27 : decode cX12_judge 27 = .ok (.imul, 1) := DX12_judge _ _ _ rfl
theorem dX12_judge_28 : decode cX12_judge 28 = .ok (.iload 4, 2) := DX12_judge _ _ _ rfl
theorem dX12_judge_30 : decode cX12_judge 30 = .ok (.iadd, 1) := DX12_judge _ _ _ rfl
theorem dX12_judge_31 : decode cX12_judge 31 = .ok (.istore 5, 2) := DX12_judge _ _ _ rfl
theorem dX12_judge_33 : decode cX12_judge 33 = .ok (.aload_n 0, 1) := DX12_judge _ _ _ rfl
theorem dX12_judge_34 : decode cX12_judge 34 = .ok (.getfield 64, 3) := DX12_judge _ _ _ rfl
theorem dX12_judge_37 : decode cX12_judge 37 = .ok (.iload 5, 2) := DX12_judge _ _ _ rfl
theorem dX12_judge_39 : decode cX12_judge 39 = .ok (.iaload, 1) := DX12_judge _ _ _ rfl
theorem dX12_judge_40 : decode cX12_judge 40 = .ok (.iload_n 2, 1) := DX12_judge _ _ _ rfl
theorem dX12_judge_41 : decode cX12_judge 41 = .ok (.if_icmp .eq 6, 3) := DX12_judge _ _ _ rfl
theorem dX12_judge_47 : decode cX12_judge 47 = .ok (.aload_n 0, 1) := DX12_judge _ _ _ rfl
theorem dX12_judge_48 : decode cX12_judge 48 = .ok (.getfield 79, 3) := DX12_judge _ _ _ rfl
theorem dX12_judge_51 : decode cX12_judge 51 = .ok (.iload 4, 2) := DX12_judge _ _ _ rfl
theorem dX12_judge_53 : decode cX12_judge 53 = .ok (.aload_n 0, 1) := DX12_judge _ _ _ rfl
theorem dX12_judge_54 : decode cX12_judge 54 = .ok (.iload_n 1, 1) := DX12_judge _ _ _ rfl
theorem dX12_judge_55 : decode cX12_judge 55 = .ok (.iload 5, 2) := DX12_judge _ _ _ rfl
theorem dX12_judge_57 : decode cX12_judge 57 = .ok (.invokevirtual 250, 3) := DX12_judge _ _ _ rfl
theorem dX12_judge_60 : decode cX12_judge 60 = .ok (.iastore, 1) := DX12_judge _ _ _ rfl
theorem dX12_judge_61 : decode cX12_judge 61 = .ok (.aload_n 0, 1) := DX12_judge _ _ _ rfl
theorem dX12_judge_62 : decode cX12_judge 62 = .ok (.getfield 76, 3) := DX12_judge _ _ _ rfl
theorem dX12_judge_65 : decode cX12_judge 65 = .ok (.iload 4, 2) := DX12_judge _ _ _ rfl
theorem dX12_judge_67 : decode cX12_judge 67 = .ok (.aload_n 0, 1) := DX12_judge _ _ _ rfl
theorem dX12_judge_68 : decode cX12_judge 68 = .ok (.getfield 79, 3) := DX12_judge _ _ _ rfl
theorem dX12_judge_71 : decode cX12_judge 71 = .ok (.iload 4, 2) := DX12_judge _ _ _ rfl
theorem dX12_judge_73 : decode cX12_judge 73 = .ok (.iaload, 1) := DX12_judge _ _ _ rfl
theorem dX12_judge_74 : decode cX12_judge 74 = .ok (.ifCond .ne 7, 3) := DX12_judge _ _ _ rfl
theorem dX12_judge_81 : decode cX12_judge 81 = .ok (.iload_n 3, 1) := DX12_judge _ _ _ rfl
theorem dX12_judge_82 : decode cX12_judge 82 = .ok (.aload_n 0, 1) := DX12_judge _ _ _ rfl
theorem dX12_judge_83 : decode cX12_judge 83 = .ok (.getfield 70, 3) := DX12_judge _ _ _ rfl
theorem dX12_judge_86 : decode cX12_judge 86 = .ok (.iload 5, 2) := DX12_judge _ _ _ rfl
theorem dX12_judge_88 : decode cX12_judge 88 = .ok (.iaload, 1) := DX12_judge _ _ _ rfl
theorem dX12_judge_89 : decode cX12_judge 89 = .ok (.ishr, 1) := DX12_judge _ _ _ rfl
theorem dX12_judge_90 : decode cX12_judge 90 = .ok (.iconst 1, 1) := DX12_judge _ _ _ rfl
theorem dX12_judge_91 : decode cX12_judge 91 = .ok (.iand, 1) := DX12_judge _ _ _ rfl
theorem dX12_judge_92 : decode cX12_judge 92 = .ok (.iconst 1, 1) := DX12_judge _ _ _ rfl
theorem dX12_judge_93 : decode cX12_judge 93 = .ok (.if_icmp .ne 7, 3) := DX12_judge _ _ _ rfl
theorem dX12_judge_100 : decode cX12_judge 100 = .ok (.iload_n 3, 1) := DX12_judge _ _ _ rfl
theorem dX12_judge_101 : decode cX12_judge 101 = .ok (.aload_n 0, 1) := DX12_judge _ _ _ rfl
theorem dX12_judge_102 : decode cX12_judge 102 = .ok (.getfield 79, 3) := DX12_judge _ _ _ rfl
theorem dX12_judge_105 : decode cX12_judge 105 = .ok (.iload 4, 2) := DX12_judge _ _ _ rfl
theorem dX12_judge_107 : decode cX12_judge 107 = .ok (.iaload, 1) := DX12_judge _ _ _ rfl
theorem dX12_judge_108 : decode cX12_judge 108 = .ok (.iand, 1) := DX12_judge _ _ _ rfl
theorem dX12_judge_109 : decode cX12_judge 109 = .ok (.ifCond .eq 7, 3) := DX12_judge _ _ _ rfl
theorem dX12_judge_116 : decode cX12_judge 116 = .ok (.iconst 0, 1) := DX12_judge _ _ _ rfl
theorem dX12_judge_117 : decode cX12_judge 117 = .ok (.iastore, 1) := DX12_judge _ _ _ rfl
theorem dX12_judge_118 : decode cX12_judge 118 = .ok (.aload_n 0, 1) := DX12_judge _ _ _ rfl
theorem dX12_judge_119 : decode cX12_judge 119 = .ok (.getfield 76, 3) := DX12_judge _ _ _ rfl
theorem dX12_judge_122 : decode cX12_judge 122 = .ok (.iload 4, 2) := DX12_judge _ _ _ rfl
theorem dX12_judge_124 : decode cX12_judge 124 = .ok (.iaload, 1) := DX12_judge _ _ _ rfl
theorem dX12_judge_125 : decode cX12_judge 125 = .ok (.ifCond .ne 23, 3) := DX12_judge _ _ _ rfl
theorem dX12_judge_148 : decode cX12_judge 148 = .ok (.iinc 4 1, 3) := DX12_judge _ _ _ rfl
theorem dX12_judge_151 : decode cX12_judge 151 = .ok (.goto (-138), 3) := DX12_judge _ _ _ rfl
theorem dX12_judge_128 : decode cX12_judge 128 = .ok (.iload_n 3, 1) := DX12_judge _ _ _ rfl
theorem dX12_judge_129 : decode cX12_judge 129 = .ok (.aload_n 0, 1) := DX12_judge _ _ _ rfl
theorem dX12_judge_130 : decode cX12_judge 130 = .ok (.getfield 79, 3) := DX12_judge _ _ _ rfl
theorem dX12_judge_133 : decode cX12_judge 133 = .ok (.iload 4, 2) := DX12_judge _ _ _ rfl
theorem dX12_judge_135 : decode cX12_judge 135 = .ok (.iaload, 1) := DX12_judge _ _ _ rfl
theorem dX12_judge_136 : decode cX12_judge 136 = .ok (.iconst 1, 1) := DX12_judge _ _ _ rfl
theorem dX12_judge_137 : decode cX12_judge 137 = .ok (.aload_n 0, 1) := DX12_judge _ _ _ rfl
theorem dX12_judge_138 : decode cX12_judge 138 = .ok (.getfield 70, 3) := DX12_judge _ _ _ rfl
theorem dX12_judge_141 : decode cX12_judge 141 = .ok (.iload 5, 2) := DX12_judge _ _ _ rfl
theorem dX12_judge_143 : decode cX12_judge 143 = .ok (.iaload, 1) := DX12_judge _ _ _ rfl
theorem dX12_judge_144 : decode cX12_judge 144 = .ok (.ishl, 1) := DX12_judge _ _ _ rfl
theorem dX12_judge_145 : decode cX12_judge 145 = .ok (.ior, 1) := DX12_judge _ _ _ rfl
theorem dX12_judge_146 : decode cX12_judge 146 = .ok (.ior, 1) := DX12_judge _ _ _ rfl
theorem dX12_judge_147 : decode cX12_judge 147 = .ok (.istore_n 3, 1) := DX12_judge _ _ _ rfl
theorem dX12_judge_112 : decode cX12_judge 112 = .ok (.iconst 3, 1) := DX12_judge _ _ _ rfl
theorem dX12_judge_113 : decode cX12_judge 113 = .ok (.goto 4, 3) := DX12_judge _ _ _ rfl
theorem dX12_judge_96 : decode cX12_judge 96 = .ok (.iconst 2, 1) := DX12_judge _ _ _ rfl
theorem dX12_judge_97 : decode cX12_judge 97 = .ok (.goto 20, 3) := DX12_judge _ _ _ rfl
theorem dX12_judge_77 : decode cX12_judge 77 = .ok (.iconst 1, 1) := DX12_judge _ _ _ rfl
theorem dX12_judge_78 : decode cX12_judge 78 = .ok (.goto 39, 3) := DX12_judge _ _ _ rfl
theorem dX12_judge_44 : decode cX12_judge 44 = .ok (.goto 104, 3) := DX12_judge _ _ _ rfl
def F_X4_verdictOf (ca : Int32) (ot : Int32) (bu : Int32) : Int32 := if ot = 0 then ((1 : Int32)) else (if hasv bu ca = 0 then (if ot &&& bu = 0 then ((0 : Int32)) else ((3 : Int32))) else ((2 : Int32)))
set_option maxHeartbeats 4000000 in
set_option maxRecDepth 100000 in
theorem K_X4_verdictOf (l : Launch) (g : GG) (ca : Int32) (ot : Int32) (bu : Int32)  : MetI l g yX4_verdictOf cX4_verdictOf 3 (some .int) 1 0 0 [.int ca, .int ot, .int bu] [] (fun r u => r = (F_X4_verdictOf ca ot bu) ∧ u = []) := by
  refine MetI.of (own := RX4) rfl (by decide) (Nat.le_of_ble_eq_true rfl) ?_
  intro p e s m below meth c A ls args Q hQ X hr hin hW hl
  have hx := X.1
  have hb := X.2.1
  have hl : lv_has ls 3 [(0, .int ca), (1, .int ot), (2, .int bu)] := hl
  refine lv_iload_n (pc := 0) hx hb dX4_verdictOf_0 rfl (lv_at hl 1 rfl) ?_
  refine lv_if_ne (tgt := 6) (pc := 1) hx hb dX4_verdictOf_1 rfl (fun c1 => ?_) (fun c1 => ?_)
  · refine lv_iload_n (pc := 6) hx hb dX4_verdictOf_6 rfl (lv_at hl 2 rfl) ?_
    refine lv_iload_n (pc := 7) hx hb dX4_verdictOf_7 rfl (lv_at hl 0 rfl) ?_
    refine c_SNi (pc := 8) (As := [.int bu, .int ca]) (rest := []) (wr := []) X hW (C_X11_has l g bu ca) vX4_55 [] [] rfl rfl rfl rfl rfl rfl hl.1 rfl (Nat.le_of_ble_eq_true rfl) ⟨Nat.le_of_ble_eq_true rfl, Nat.le_of_ble_eq_true rfl⟩ ⟨Nat.le_of_ble_eq_true rfl, Nat.le_of_ble_eq_true rfl⟩ dX4_verdictOf_8 (fun r3 u9 H locs hq hW => ?_)
    obtain ⟨rfl, rfl⟩ := hq
    have hW : WD g A s _ _ [] := hW
    refine lv_if_eq (tgt := 16) (pc := 11) hx hb dX4_verdictOf_11 rfl (fun c4 => ?_) (fun c4 => ?_)
    · refine lv_iload_n (pc := 16) hx hb dX4_verdictOf_16 rfl (lv_at hl 1 rfl) ?_
      refine lv_iload_n (pc := 17) hx hb dX4_verdictOf_17 rfl (lv_at hl 2 rfl) ?_
      refine lv_iand (pc := 18) hx hb dX4_verdictOf_18 ?_
      refine lv_if_eq (tgt := 26) (pc := 19) hx hb dX4_verdictOf_19 rfl (fun c6 => ?_) (fun c6 => ?_)
      · refine lv_iconst (v := 0) (pc := 26) hx hb dX4_verdictOf_26 (by decide) ?_
        have hF : F_X4_verdictOf ca ot bu = (0 : Int32) := show F_X4_verdictOf ca ot bu = (0 : Int32) from by rw [F_X4_verdictOf, if_neg c1, if_pos c4, if_pos c6]
        exact e_i (u := []) X hQ hr (hW) [] rfl rfl (⟨hF.symm, rfl⟩) ⟨Nat.le_of_ble_eq_true rfl, Nat.le_of_ble_eq_true rfl⟩ dX4_verdictOf_27
      · refine lv_iconst (v := 3) (pc := 22) hx hb dX4_verdictOf_22 (by decide) ?_
        refine lv_goto (tgt := 27) (pc := 23) hx hb dX4_verdictOf_23 rfl ?_
        have hF : F_X4_verdictOf ca ot bu = (3 : Int32) := show F_X4_verdictOf ca ot bu = (3 : Int32) from by rw [F_X4_verdictOf, if_neg c1, if_pos c4, if_neg c6]
        exact e_i (u := []) X hQ hr (hW) [] rfl rfl (⟨hF.symm, rfl⟩) ⟨Nat.le_of_ble_eq_true rfl, Nat.le_of_ble_eq_true rfl⟩ dX4_verdictOf_27
    · refine lv_iconst (v := 2) (pc := 14) hx hb dX4_verdictOf_14 (by decide) ?_
      have hF : F_X4_verdictOf ca ot bu = (2 : Int32) := show F_X4_verdictOf ca ot bu = (2 : Int32) from by rw [F_X4_verdictOf, if_neg c1, if_neg c4]
      exact e_i (u := []) X hQ hr (hW) [] rfl rfl (⟨hF.symm, rfl⟩) ⟨Nat.le_of_ble_eq_true rfl, Nat.le_of_ble_eq_true rfl⟩ dX4_verdictOf_15
  · refine lv_iconst (v := 1) (pc := 4) hx hb dX4_verdictOf_4 (by decide) ?_
    have hF : F_X4_verdictOf ca ot bu = (1 : Int32) := show F_X4_verdictOf ca ot bu = (1 : Int32) from by rw [F_X4_verdictOf, if_pos c1]
    exact e_i (u := []) X hQ hr (hW) [] rfl rfl (⟨hF.symm, rfl⟩) ⟨Nat.le_of_ble_eq_true rfl, Nat.le_of_ble_eq_true rfl⟩ dX4_verdictOf_5

def L1_X4_judges (pH : Nat → Int32) (pK : Nat → Int32) (pA : Nat → Int32) (pB : Nat → Int32) (oE : Nat → Int32) (K : Nat → Int32) (j1 : Nat) (x2_1 : Int32) (x1_1 : Int32) (fq5_1 : Nat → Int32) (fq6_1 : Nat → Int32) : Int32 × Int32 × (Nat → Int32) × (Nat → Int32) := if pH (tN (oE j1)) = x1_1 then (if pK (tN (oE j1)) = 3 then (if (upd fq5_1 (tN (oE j1)) (F_X4_verdictOf (nI (tN (pA (tN (oE j1))))) ((upd fq6_1 (tN (oE j1)) ((-1 : Int32) &&& (F_X10_callable K (tN (pA (tN (oE j1)))) (tN (pH (tN (oE j1))))))) (tN (oE j1))) x2_1)) (tN (oE j1)) = 0 then ((x2_1 ||| (((1 : Int32) <<< ((nI (tN (pA (tN (oE j1))))) &&& 31)) ||| ((upd fq6_1 (tN (oE j1)) ((-1 : Int32) &&& (F_X10_callable K (tN (pA (tN (oE j1)))) (tN (pH (tN (oE j1))))))) (tN (oE j1)))), x1_1, (upd fq5_1 (tN (oE j1)) (F_X4_verdictOf (nI (tN (pA (tN (oE j1))))) ((upd fq6_1 (tN (oE j1)) ((-1 : Int32) &&& (F_X10_callable K (tN (pA (tN (oE j1)))) (tN (pH (tN (oE j1))))))) (tN (oE j1))) x2_1)), (upd fq6_1 (tN (oE j1)) ((-1 : Int32) &&& (F_X10_callable K (tN (pA (tN (oE j1)))) (tN (pH (tN (oE j1))))))))) else ((x2_1, x1_1, (upd fq5_1 (tN (oE j1)) (F_X4_verdictOf (nI (tN (pA (tN (oE j1))))) ((upd fq6_1 (tN (oE j1)) ((-1 : Int32) &&& (F_X10_callable K (tN (pA (tN (oE j1)))) (tN (pH (tN (oE j1))))))) (tN (oE j1))) x2_1)), (upd fq6_1 (tN (oE j1)) ((-1 : Int32) &&& (F_X10_callable K (tN (pA (tN (oE j1)))) (tN (pH (tN (oE j1)))))))))) else (if (upd fq5_1 (tN (oE j1)) (F_X4_verdictOf (nI (tN (pA (tN (oE j1))))) ((upd fq6_1 (tN (oE j1)) (((1 : Int32) <<< ((pB (tN (oE j1))) &&& 31)) &&& (F_X10_callable K (tN (pA (tN (oE j1)))) (tN (pH (tN (oE j1))))))) (tN (oE j1))) x2_1)) (tN (oE j1)) = 0 then ((x2_1 ||| (((1 : Int32) <<< ((nI (tN (pA (tN (oE j1))))) &&& 31)) ||| ((upd fq6_1 (tN (oE j1)) (((1 : Int32) <<< ((pB (tN (oE j1))) &&& 31)) &&& (F_X10_callable K (tN (pA (tN (oE j1)))) (tN (pH (tN (oE j1))))))) (tN (oE j1)))), x1_1, (upd fq5_1 (tN (oE j1)) (F_X4_verdictOf (nI (tN (pA (tN (oE j1))))) ((upd fq6_1 (tN (oE j1)) (((1 : Int32) <<< ((pB (tN (oE j1))) &&& 31)) &&& (F_X10_callable K (tN (pA (tN (oE j1)))) (tN (pH (tN (oE j1))))))) (tN (oE j1))) x2_1)), (upd fq6_1 (tN (oE j1)) (((1 : Int32) <<< ((pB (tN (oE j1))) &&& 31)) &&& (F_X10_callable K (tN (pA (tN (oE j1)))) (tN (pH (tN (oE j1))))))))) else ((x2_1, x1_1, (upd fq5_1 (tN (oE j1)) (F_X4_verdictOf (nI (tN (pA (tN (oE j1))))) ((upd fq6_1 (tN (oE j1)) (((1 : Int32) <<< ((pB (tN (oE j1))) &&& 31)) &&& (F_X10_callable K (tN (pA (tN (oE j1)))) (tN (pH (tN (oE j1))))))) (tN (oE j1))) x2_1)), (upd fq6_1 (tN (oE j1)) (((1 : Int32) <<< ((pB (tN (oE j1))) &&& 31)) &&& (F_X10_callable K (tN (pA (tN (oE j1)))) (tN (pH (tN (oE j1))))))))))) else (if pK (tN (oE j1)) = 3 then (if (upd fq5_1 (tN (oE j1)) (F_X4_verdictOf (nI (tN (pA (tN (oE j1))))) ((upd fq6_1 (tN (oE j1)) ((-1 : Int32) &&& (F_X10_callable K (tN (pA (tN (oE j1)))) (tN (pH (tN (oE j1))))))) (tN (oE j1))) (0 : Int32))) (tN (oE j1)) = 0 then (((0 : Int32) ||| (((1 : Int32) <<< ((nI (tN (pA (tN (oE j1))))) &&& 31)) ||| ((upd fq6_1 (tN (oE j1)) ((-1 : Int32) &&& (F_X10_callable K (tN (pA (tN (oE j1)))) (tN (pH (tN (oE j1))))))) (tN (oE j1)))), pH (tN (oE j1)), (upd fq5_1 (tN (oE j1)) (F_X4_verdictOf (nI (tN (pA (tN (oE j1))))) ((upd fq6_1 (tN (oE j1)) ((-1 : Int32) &&& (F_X10_callable K (tN (pA (tN (oE j1)))) (tN (pH (tN (oE j1))))))) (tN (oE j1))) (0 : Int32))), (upd fq6_1 (tN (oE j1)) ((-1 : Int32) &&& (F_X10_callable K (tN (pA (tN (oE j1)))) (tN (pH (tN (oE j1))))))))) else (((0 : Int32), pH (tN (oE j1)), (upd fq5_1 (tN (oE j1)) (F_X4_verdictOf (nI (tN (pA (tN (oE j1))))) ((upd fq6_1 (tN (oE j1)) ((-1 : Int32) &&& (F_X10_callable K (tN (pA (tN (oE j1)))) (tN (pH (tN (oE j1))))))) (tN (oE j1))) (0 : Int32))), (upd fq6_1 (tN (oE j1)) ((-1 : Int32) &&& (F_X10_callable K (tN (pA (tN (oE j1)))) (tN (pH (tN (oE j1)))))))))) else (if (upd fq5_1 (tN (oE j1)) (F_X4_verdictOf (nI (tN (pA (tN (oE j1))))) ((upd fq6_1 (tN (oE j1)) (((1 : Int32) <<< ((pB (tN (oE j1))) &&& 31)) &&& (F_X10_callable K (tN (pA (tN (oE j1)))) (tN (pH (tN (oE j1))))))) (tN (oE j1))) (0 : Int32))) (tN (oE j1)) = 0 then (((0 : Int32) ||| (((1 : Int32) <<< ((nI (tN (pA (tN (oE j1))))) &&& 31)) ||| ((upd fq6_1 (tN (oE j1)) (((1 : Int32) <<< ((pB (tN (oE j1))) &&& 31)) &&& (F_X10_callable K (tN (pA (tN (oE j1)))) (tN (pH (tN (oE j1))))))) (tN (oE j1)))), pH (tN (oE j1)), (upd fq5_1 (tN (oE j1)) (F_X4_verdictOf (nI (tN (pA (tN (oE j1))))) ((upd fq6_1 (tN (oE j1)) (((1 : Int32) <<< ((pB (tN (oE j1))) &&& 31)) &&& (F_X10_callable K (tN (pA (tN (oE j1)))) (tN (pH (tN (oE j1))))))) (tN (oE j1))) (0 : Int32))), (upd fq6_1 (tN (oE j1)) (((1 : Int32) <<< ((pB (tN (oE j1))) &&& 31)) &&& (F_X10_callable K (tN (pA (tN (oE j1)))) (tN (pH (tN (oE j1))))))))) else (((0 : Int32), pH (tN (oE j1)), (upd fq5_1 (tN (oE j1)) (F_X4_verdictOf (nI (tN (pA (tN (oE j1))))) ((upd fq6_1 (tN (oE j1)) (((1 : Int32) <<< ((pB (tN (oE j1))) &&& 31)) &&& (F_X10_callable K (tN (pA (tN (oE j1)))) (tN (pH (tN (oE j1))))))) (tN (oE j1))) (0 : Int32))), (upd fq6_1 (tN (oE j1)) (((1 : Int32) <<< ((pB (tN (oE j1))) &&& 31)) &&& (F_X10_callable K (tN (pA (tN (oE j1)))) (tN (pH (tN (oE j1)))))))))))
def L1_X4_judge (pH : Nat → Int32) (pK : Nat → Int32) (pA : Nat → Int32) (pB : Nat → Int32) (oE : Nat → Int32) (K : Nat → Int32) (i0_ : Int32) (i1_ : Int32) (i2_ : Nat → Int32) (i3_ : Nat → Int32) : Nat → Int32 × Int32 × (Nat → Int32) × (Nat → Int32)
  | 0 => (i0_, i1_, i2_, i3_)
  | k_ + 1 => L1_X4_judges pH pK pA pB oE K k_ ((L1_X4_judge pH pK pA pB oE K i0_ i1_ i2_ i3_ k_).1) ((L1_X4_judge pH pK pA pB oE K i0_ i1_ i2_ i3_ k_).2.1) ((L1_X4_judge pH pK pA pB oE K i0_ i1_ i2_ i3_ k_).2.2.1) ((L1_X4_judge pH pK pA pB oE K i0_ i1_ i2_ i3_ k_).2.2.2)
def F_X4_judge (pc : Nat) (pH : Nat → Int32) (pK : Nat → Int32) (pA : Nat → Int32) (pB : Nat → Int32) (oE : Nat → Int32) (pW : Nat → Int32) (pR : Nat → Int32) (K : Nat → Int32) : (Nat → Int32) × (Nat → Int32) := (((L1_X4_judge pH pK pA pB oE K (0 : Int32) (0 : Int32) pW pR pc).2.2.1), ((L1_X4_judge pH pK pA pB oE K (0 : Int32) (0 : Int32) pW pR pc).2.2.2))
set_option maxHeartbeats 4000000 in
set_option maxRecDepth 100000 in
theorem K_X4_judge (l : Launch) (g : GG) (q : Nat) (q0 : Nat) (q1 : Nat) (q2 : Nat) (q3 : Nat) (q4 : Nat) (q5 : Nat) (q6 : Nat) (pc : Nat) (v : Nat) (v3 : Nat) (v4 : Nat) (v5 : Nat) (v6 : Nat) (v7 : Nat) (v8 : Nat) (v9 : Nat) (v10 : Nat) (v11 : Nat) (v12 : Nat) (v13 : Nat) (v15 : Nat) (pe : Int32) (lc : Int32) (de : Int32) (gl : Int32) (pH : Nat → Int32) (pK : Nat → Int32) (pA : Nat → Int32) (pB : Nat → Int32) (oE : Nat → Int32) (pW : Nat → Int32) (pR : Nat → Int32) (K : Nat → Int32) (hp40 : pc ≤ 40) (hoe : ∀ j : Nat, j < 40 → oE j = nI (tN (oE j)) ∧ tN (oE j) < 40) (hH : ∀ j : Nat, j < 40 → pH j = nI (tN (pH j)) ∧ tN (pH j) ≤ 24) (hCa : ∀ j : Nat, j < 40 → pA j = nI (tN (pA j)) ∧ tN (pA j) < 7) : MetV l g yX4_judge cX4_judge 7 none 2 0 0 [.ref q] [(q, .inr (4, [.ref v, .int (nI pc), .ref q0, .ref q1, .ref q2, .ref q3, .ref q4, .ref q5, .ref q6])), (q0, .inl (g.2.1 1, 40, .inl pH)), (q1, .inl (g.2.1 1, 40, .inl pK)), (q2, .inl (g.2.1 1, 40, .inl pA)), (q3, .inl (g.2.1 1, 40, .inl pB)), (q4, .inl (g.2.1 1, 40, .inl oE)), (q5, .inl (g.2.1 1, 40, .inl pW)), (q6, .inl (g.2.1 1, 40, .inl pR)), (v, .inr (10, [.int pe, .int lc, .int de, .ref v3, .ref v4, .ref v5, .ref v6, .ref v7, .ref v8, .ref v9, .ref v10, .ref v11, .ref v12, .ref v13, .int gl, .ref v15])), (v10, .inl (g.2.1 1, 175, .inl K))] (fun u => u = [(q, .inr (4, [.ref v, .int (nI pc), .ref q0, .ref q1, .ref q2, .ref q3, .ref q4, .ref q5, .ref q6])), (q0, .inl (g.2.1 1, 40, .inl pH)), (q1, .inl (g.2.1 1, 40, .inl pK)), (q2, .inl (g.2.1 1, 40, .inl pA)), (q3, .inl (g.2.1 1, 40, .inl pB)), (q4, .inl (g.2.1 1, 40, .inl oE)), (q5, .inl (g.2.1 1, 40, .inl ((F_X4_judge pc pH pK pA pB oE pW pR K).1))), (q6, .inl (g.2.1 1, 40, .inl ((F_X4_judge pc pH pK pA pB oE pW pR K).2))), (v, .inr (10, [.int pe, .int lc, .int de, .ref v3, .ref v4, .ref v5, .ref v6, .ref v7, .ref v8, .ref v9, .ref v10, .ref v11, .ref v12, .ref v13, .int gl, .ref v15])), (v10, .inl (g.2.1 1, 175, .inl K))]) := by
  refine MetV.of (own := RX4) rfl (by decide) (Nat.le_of_ble_eq_true rfl) ?_
  intro p e s m below meth c A ls args Q hQ X hr hin hW hl
  have hx := X.1
  have hb := X.2.1
  have hl : lv_has ls 7 [(0, .ref q)] := hl
  refine lv_iconst (v := 0) (pc := 0) hx hb dX4_judge_0 (by decide) ?_
  refine lv_istore_n (lv' := [(1, .int 0), (0, .ref q)]) (pc := 1) hx hb dX4_judge_1 rfl hl (by decide) rfl (fun ls hl => ?_)
  refine lv_iconst (v := 0) (pc := 2) hx hb dX4_judge_2 (by decide) ?_
  refine lv_istore_n (lv' := [(2, .int 0), (1, .int 0), (0, .ref q)]) (pc := 3) hx hb dX4_judge_3 rfl hl (by decide) rfl (fun ls hl => ?_)
  refine lv_iconst (v := 0) (pc := 4) hx hb dX4_judge_4 (by decide) ?_
  refine lv_istore_n (lv' := [(3, .int 0), (2, .int 0), (1, .int 0), (0, .ref q)]) (pc := 5) hx hb dX4_judge_5 rfl hl (by decide) rfl (fun ls hl => ?_)
  have loop1 : ∀ (fu1 : Nat) (j1 : Nat) (x2_1 : Int32) (x1_1 : Int32) (fq5_1 : Nat → Int32) (fq6_1 : Nat → Int32), (pc < fu1 + j1) → (j1 ≤ pc) → ((x2_1, x1_1, fq5_1, fq6_1) = L1_X4_judge pH pK pA pB oE K (0 : Int32) (0 : Int32) pW pR j1) → ∀ (H : Heap) (locs : List Loc) (ls : Array Slot), WD g A s H locs [(q, .inr (4, [.ref v, .int (nI pc), .ref q0, .ref q1, .ref q2, .ref q3, .ref q4, .ref q5, .ref q6])), (q0, .inl (g.2.1 1, 40, .inl pH)), (q1, .inl (g.2.1 1, 40, .inl pK)), (q2, .inl (g.2.1 1, 40, .inl pA)), (q3, .inl (g.2.1 1, 40, .inl pB)), (q4, .inl (g.2.1 1, 40, .inl oE)), (q5, .inl (g.2.1 1, 40, .inl fq5_1)), (q6, .inl (g.2.1 1, 40, .inl fq6_1)), (v, .inr (10, [.int pe, .int lc, .int de, .ref v3, .ref v4, .ref v5, .ref v6, .ref v7, .ref v8, .ref v9, .ref v10, .ref v11, .ref v12, .ref v13, .int gl, .ref v15])), (v10, .inl (g.2.1 1, 175, .inl K))] → lv_has ls 7 [(3, .int (nI j1)), (2, .int x2_1), (1, .int x1_1), (0, .ref q)] → W p l e (RM 2 0 0) s m args below meth c H locs 0 0 Q (F0 m 6 ls []) := by
    intro fu1
    induction fu1 with
    | zero =>
      intro j1 x2_1 x1_1 fq5_1 fq6_1 hm1 hj1 hst1
      exact absurd hm1 (by omega)
    | succ fu1 ih1 =>
      intro j1 x2_1 x1_1 fq5_1 fq6_1 hm1 hj1 hst1 H locs ls hW hl
      refine lv_iload_n (pc := 6) hx hb dX4_judge_6 rfl (lv_at hl 0 rfl) ?_
      refine lv_aload_n (pc := 7) hx hb dX4_judge_7 rfl (lv_at hl 3 rfl) ?_
      refine r_get X hW 0 ciX4 1 rfl (by decide) m_569 rfl rfl dX4_judge_8 ?_
      refine lv_icmp_ge (tgt := 149) (pc := 11) hx hb dX4_judge_11 rfl (fun c1 => ?_) (fun c1 => ?_)
      · have h2 : pc ≤ j1 := (nI_leI (a := pc) (b := j1) (by omega) (by omega)).mp c1
        have hN1 : j1 = pc := by omega
        rw [hN1] at hst1
        have hs1_0 : x2_1 = (L1_X4_judge pH pK pA pB oE K (0 : Int32) (0 : Int32) pW pR pc).1 := congrArg (fun z => z.1) hst1
        have hs1_1 : x1_1 = (L1_X4_judge pH pK pA pB oE K (0 : Int32) (0 : Int32) pW pR pc).2.1 := congrArg (fun z => z.2.1) hst1
        have hs1_2 : fq5_1 = (L1_X4_judge pH pK pA pB oE K (0 : Int32) (0 : Int32) pW pR pc).2.2.1 := congrArg (fun z => z.2.2.1) hst1
        have hs1_3 : fq6_1 = (L1_X4_judge pH pK pA pB oE K (0 : Int32) (0 : Int32) pW pR pc).2.2.2 := congrArg (fun z => z.2.2.2) hst1
        clear hst1
        subst hs1_0
        subst hs1_1
        subst hs1_2
        subst hs1_3
        have hW : WD g A s _ _ [(q, .inr (4, [.ref v, .int (nI pc), .ref q0, .ref q1, .ref q2, .ref q3, .ref q4, .ref q5, .ref q6])), (q0, .inl (g.2.1 1, 40, .inl pH)), (q1, .inl (g.2.1 1, 40, .inl pK)), (q2, .inl (g.2.1 1, 40, .inl pA)), (q3, .inl (g.2.1 1, 40, .inl pB)), (q4, .inl (g.2.1 1, 40, .inl oE)), (q5, .inl (g.2.1 1, 40, .inl ((L1_X4_judge pH pK pA pB oE K (0 : Int32) (0 : Int32) pW pR pc).2.2.1))), (q6, .inl (g.2.1 1, 40, .inl ((L1_X4_judge pH pK pA pB oE K (0 : Int32) (0 : Int32) pW pR pc).2.2.2))), (v, .inr (10, [.int pe, .int lc, .int de, .ref v3, .ref v4, .ref v5, .ref v6, .ref v7, .ref v8, .ref v9, .ref v10, .ref v11, .ref v12, .ref v13, .int gl, .ref v15])), (v10, .inl (g.2.1 1, 175, .inl K))] := hW
        have hF : F_X4_judge pc pH pK pA pB oE pW pR K = (((L1_X4_judge pH pK pA pB oE K (0 : Int32) (0 : Int32) pW pR pc).2.2.1), ((L1_X4_judge pH pK pA pB oE K (0 : Int32) (0 : Int32) pW pR pc).2.2.2)) := show F_X4_judge pc pH pK pA pB oE pW pR K = (((L1_X4_judge pH pK pA pB oE K (0 : Int32) (0 : Int32) pW pR pc).2.2.1), ((L1_X4_judge pH pK pA pB oE K (0 : Int32) (0 : Int32) pW pR pc).2.2.2)) from rfl
        exact e_v (u := [(q, .inr (4, [.ref v, .int (nI pc), .ref q0, .ref q1, .ref q2, .ref q3, .ref q4, .ref q5, .ref q6])), (q0, .inl (g.2.1 1, 40, .inl pH)), (q1, .inl (g.2.1 1, 40, .inl pK)), (q2, .inl (g.2.1 1, 40, .inl pA)), (q3, .inl (g.2.1 1, 40, .inl pB)), (q4, .inl (g.2.1 1, 40, .inl oE)), (q5, .inl (g.2.1 1, 40, .inl ((L1_X4_judge pH pK pA pB oE K (0 : Int32) (0 : Int32) pW pR pc).2.2.1))), (q6, .inl (g.2.1 1, 40, .inl ((L1_X4_judge pH pK pA pB oE K (0 : Int32) (0 : Int32) pW pR pc).2.2.2))), (v, .inr (10, [.int pe, .int lc, .int de, .ref v3, .ref v4, .ref v5, .ref v6, .ref v7, .ref v8, .ref v9, .ref v10, .ref v11, .ref v12, .ref v13, .int gl, .ref v15])), (v10, .inl (g.2.1 1, 175, .inl K))]) X hQ hr (hW) [0, 1, 2, 3, 4, 5, 6, 7, 8, 9] rfl rfl (by rw [hF]) ⟨Nat.le_of_ble_eq_true rfl, Nat.le_of_ble_eq_true rfl⟩ dX4_judge_149
      · have h3 : ¬ (pc ≤ j1) := fun q => c1 ((nI_leI (a := pc) (b := j1) (by omega) (by omega)).mpr q)
        refine lv_aload_n (pc := 14) hx hb dX4_judge_14 rfl (lv_at hl 3 rfl) ?_
        refine r_get X hW 0 ciX4 6 rfl (by decide) m_580 rfl rfl dX4_judge_15 ?_
        refine lv_iload_n (pc := 18) hx hb dX4_judge_18 rfl (lv_at hl 0 rfl) ?_
        refine r_iald X hW 5 rfl (vp_in_nI (by omega) (by decide)) dX4_judge_19 ?_
        refine lv_topi (fun v4 ev4 => ?_)
        obtain rfl : v4 = oE j1 := ev4.trans (by rw [nI_clamp (by omega)])
        have hoj := hoe j1 (by omega)
        rw [hoj.1]
        have hoj2 := hoj.2
        have hHj := hH (tN (oE j1)) hoj2
        have hCj := hCa (tN (oE j1)) hoj2
        have hHj2 := hHj.2
        have hCj2 := hCj.2
        refine lv_istore (lv' := [(4, .int (nI (tN (oE j1)))), (3, .int (nI j1)), (2, .int x2_1), (1, .int x1_1), (0, .ref q)]) (pc := 20) hx hb dX4_judge_20 hl (by decide) rfl (fun ls hl => ?_)
        refine lv_aload_n (pc := 22) hx hb dX4_judge_22 rfl (lv_at hl 4 rfl) ?_
        refine r_get X hW 0 ciX4 2 rfl (by decide) m_572 rfl rfl dX4_judge_23 ?_
        refine lv_iload (pc := 26) hx hb dX4_judge_26 (lv_at hl 0 rfl) ?_
        refine r_iald X hW 1 rfl (vp_in_nI (by omega) (by decide)) dX4_judge_28 ?_
        refine lv_topi (fun v5 ev5 => ?_)
        obtain rfl : v5 = pH (tN (oE j1)) := ev5.trans (by rw [nI_clamp (by omega)])
        refine lv_iload_n (pc := 29) hx hb dX4_judge_29 rfl (lv_at hl 3 rfl) ?_
        refine lv_icmp_eq (tgt := 43) (pc := 30) hx hb dX4_judge_30 rfl (fun c6 => ?_) (fun c6 => ?_)
        · refine lv_aload_n (pc := 43) hx hb dX4_judge_43 rfl (lv_at hl 4 rfl) ?_
          refine r_get X hW 0 ciX4 4 rfl (by decide) m_576 rfl rfl dX4_judge_44 ?_
          refine lv_iload (pc := 47) hx hb dX4_judge_47 (lv_at hl 0 rfl) ?_
          refine r_iald X hW 3 rfl (vp_in_nI (by omega) (by decide)) dX4_judge_49 ?_
          refine lv_topi (fun v8 ev8 => ?_)
          obtain rfl : v8 = pA (tN (oE j1)) := ev8.trans (by rw [nI_clamp (by omega)])
          rw [hCj.1]
          refine lv_istore (lv' := [(5, .int (nI (tN (pA (tN (oE j1)))))), (4, .int (nI (tN (oE j1)))), (3, .int (nI j1)), (2, .int x2_1), (1, .int x1_1), (0, .ref q)]) (pc := 50) hx hb dX4_judge_50 hl (by decide) rfl (fun ls hl => ?_)
          refine lv_aload_n (pc := 52) hx hb dX4_judge_52 rfl (lv_at hl 5 rfl) ?_
          refine r_get X hW 0 ciX4 3 rfl (by decide) m_574 rfl rfl dX4_judge_53 ?_
          refine lv_iload (pc := 56) hx hb dX4_judge_56 (lv_at hl 1 rfl) ?_
          refine r_iald X hW 2 rfl (vp_in_nI (by omega) (by decide)) dX4_judge_58 ?_
          refine lv_topi (fun v9 ev9 => ?_)
          obtain rfl : v9 = pK (tN (oE j1)) := ev9.trans (by rw [nI_clamp (by omega)])
          refine lv_iconst (v := 3) (pc := 59) hx hb dX4_judge_59 (by decide) ?_
          refine lv_icmp_ne (tgt := 67) (pc := 60) hx hb dX4_judge_60 rfl (fun c10 => ?_) (fun c10 => ?_)
          · refine lv_iconst (v := 1) (pc := 67) hx hb dX4_judge_67 (by decide) ?_
            refine lv_aload_n (pc := 68) hx hb dX4_judge_68 rfl (lv_at hl 5 rfl) ?_
            refine r_get X hW 0 ciX4 5 rfl (by decide) m_578 rfl rfl dX4_judge_69 ?_
            refine lv_iload (pc := 72) hx hb dX4_judge_72 (lv_at hl 1 rfl) ?_
            refine r_iald X hW 4 rfl (vp_in_nI (by omega) (by decide)) dX4_judge_74 ?_
            refine lv_topi (fun v12 ev12 => ?_)
            obtain rfl : v12 = pB (tN (oE j1)) := ev12.trans (by rw [nI_clamp (by omega)])
            refine lv_ishl (pc := 75) hx hb dX4_judge_75 ?_
            refine lv_istore (lv' := [(6, .int ((1 : Int32) <<< ((pB (tN (oE j1))) &&& 31))), (5, .int (nI (tN (pA (tN (oE j1)))))), (4, .int (nI (tN (oE j1)))), (3, .int (nI j1)), (2, .int x2_1), (1, .int x1_1), (0, .ref q)]) (pc := 76) hx hb dX4_judge_76 hl (by decide) rfl (fun ls hl => ?_)
            refine lv_aload_n (pc := 78) hx hb dX4_judge_78 rfl (lv_at hl 6 rfl) ?_
            refine r_get X hW 0 ciX4 8 rfl (by decide) m_585 rfl rfl dX4_judge_79 ?_
            refine lv_iload (pc := 82) hx hb dX4_judge_82 (lv_at hl 2 rfl) ?_
            refine lv_iload (pc := 84) hx hb dX4_judge_84 (lv_at hl 0 rfl) ?_
            refine lv_aload_n (pc := 86) hx hb dX4_judge_86 rfl (lv_at hl 6 rfl) ?_
            refine r_get X hW 0 ciX4 0 rfl (by decide) m_566 rfl rfl dX4_judge_87 ?_
            refine lv_iload (pc := 90) hx hb dX4_judge_90 (lv_at hl 1 rfl) ?_
            refine lv_iload_n (pc := 92) hx hb dX4_judge_92 rfl (lv_at hl 5 rfl) ?_
            rw [show x1_1 = nI (tN (pH (tN (oE j1)))) from c6.symm.trans hHj.1]
            refine c_Vi (pc := 93) (As := [.int (nI (tN (pA (tN (oE j1))))), .int (nI (tN (pH (tN (oE j1)))))]) (rest := [.int ((1 : Int32) <<< ((pB (tN (oE j1))) &&& 31)), .int (nI (tN (oE j1))), .ref q6]) (wr := [(q, .inr (4, [.ref v, .int (nI pc), .ref q0, .ref q1, .ref q2, .ref q3, .ref q4, .ref q5, .ref q6])), (q0, .inl (g.2.1 1, 40, .inl pH)), (q1, .inl (g.2.1 1, 40, .inl pK)), (q2, .inl (g.2.1 1, 40, .inl pA)), (q3, .inl (g.2.1 1, 40, .inl pB)), (q4, .inl (g.2.1 1, 40, .inl oE)), (q5, .inl (g.2.1 1, 40, .inl fq5_1)), (q6, .inl (g.2.1 1, 40, .inl fq6_1))]) X hW 8 ciX10 rfl (K_X10_callable l g v v3 v4 v5 v6 v7 v8 v9 v10 v11 v12 v13 v15 pe lc de gl K (tN (pA (tN (oE j1)))) (tN (pH (tN (oE j1)))) (by omega) (by omega)) vX4_45 [8, 9] [0, 1, 2, 3, 4, 5, 6, 7] rfl rfl rfl rfl rfl rfl hl.1 rfl (Nat.le_of_ble_eq_true rfl) ⟨Nat.le_of_ble_eq_true rfl, Nat.le_of_ble_eq_true rfl⟩ ⟨Nat.le_of_ble_eq_true rfl, Nat.le_of_ble_eq_true rfl⟩ dX4_judge_93 (fun r13 u9 H locs hq hW => ?_)
            obtain ⟨rfl, rfl⟩ := hq
            have hW : WD g A s _ _ [(q, .inr (4, [.ref v, .int (nI pc), .ref q0, .ref q1, .ref q2, .ref q3, .ref q4, .ref q5, .ref q6])), (q0, .inl (g.2.1 1, 40, .inl pH)), (q1, .inl (g.2.1 1, 40, .inl pK)), (q2, .inl (g.2.1 1, 40, .inl pA)), (q3, .inl (g.2.1 1, 40, .inl pB)), (q4, .inl (g.2.1 1, 40, .inl oE)), (q5, .inl (g.2.1 1, 40, .inl fq5_1)), (q6, .inl (g.2.1 1, 40, .inl fq6_1)), (v, .inr (10, [.int pe, .int lc, .int de, .ref v3, .ref v4, .ref v5, .ref v6, .ref v7, .ref v8, .ref v9, .ref v10, .ref v11, .ref v12, .ref v13, .int gl, .ref v15])), (v10, .inl (g.2.1 1, 175, .inl K))] := hW
            refine lv_iand (pc := 96) hx hb dX4_judge_96 ?_
            refine r_iast (ws' := [(q, .inr (4, [.ref v, .int (nI pc), .ref q0, .ref q1, .ref q2, .ref q3, .ref q4, .ref q5, .ref q6])), (q0, .inl (g.2.1 1, 40, .inl pH)), (q1, .inl (g.2.1 1, 40, .inl pK)), (q2, .inl (g.2.1 1, 40, .inl pA)), (q3, .inl (g.2.1 1, 40, .inl pB)), (q4, .inl (g.2.1 1, 40, .inl oE)), (q5, .inl (g.2.1 1, 40, .inl fq5_1)), (q6, .inl (g.2.1 1, 40, .inl (upd fq6_1 (tN (oE j1)) (((1 : Int32) <<< ((pB (tN (oE j1))) &&& 31)) &&& (F_X10_callable K (tN (pA (tN (oE j1)))) (tN (pH (tN (oE j1))))))))), (v, .inr (10, [.int pe, .int lc, .int de, .ref v3, .ref v4, .ref v5, .ref v6, .ref v7, .ref v8, .ref v9, .ref v10, .ref v11, .ref v12, .ref v13, .int gl, .ref v15])), (v10, .inl (g.2.1 1, 175, .inl K))]) X hW 7 rfl (vp_in_nI (by omega) (by decide)) (f' := (upd fq6_1 (tN (oE j1)) (((1 : Int32) <<< ((pB (tN (oE j1))) &&& 31)) &&& (F_X10_callable K (tN (pA (tN (oE j1)))) (tN (pH (tN (oE j1)))))))) (by rw [nI_clamp (by omega)]) rfl dX4_judge_97 (fun H locs hW => ?_)
            refine lv_aload_n (pc := 98) hx hb dX4_judge_98 rfl (lv_at hl 6 rfl) ?_
            refine r_get X hW 0 ciX4 7 rfl (by decide) m_582 rfl rfl dX4_judge_99 ?_
            refine lv_iload (pc := 102) hx hb dX4_judge_102 (lv_at hl 2 rfl) ?_
            refine lv_iload (pc := 104) hx hb dX4_judge_104 (lv_at hl 1 rfl) ?_
            refine lv_aload_n (pc := 106) hx hb dX4_judge_106 rfl (lv_at hl 6 rfl) ?_
            refine r_get X hW 0 ciX4 8 rfl (by decide) m_585 rfl rfl dX4_judge_107 ?_
            refine lv_iload (pc := 110) hx hb dX4_judge_110 (lv_at hl 2 rfl) ?_
            refine r_iald X hW 7 rfl (vp_in_nI (by omega) (by decide)) dX4_judge_112 ?_
            refine lv_topi (fun v14 ev14 => ?_)
            obtain rfl : v14 = (upd fq6_1 (tN (oE j1)) (((1 : Int32) <<< ((pB (tN (oE j1))) &&& 31)) &&& (F_X10_callable K (tN (pA (tN (oE j1)))) (tN (pH (tN (oE j1))))))) (tN (oE j1)) := ev14.trans (by rw [nI_clamp (by omega)])
            refine lv_iload_n (pc := 113) hx hb dX4_judge_113 rfl (lv_at hl 4 rfl) ?_
            refine c_Si (pc := 114) (As := [.int (nI (tN (pA (tN (oE j1))))), .int ((upd fq6_1 (tN (oE j1)) (((1 : Int32) <<< ((pB (tN (oE j1))) &&& 31)) &&& (F_X10_callable K (tN (pA (tN (oE j1)))) (tN (pH (tN (oE j1))))))) (tN (oE j1))), .int x2_1]) (rest := [.int (nI (tN (oE j1))), .ref q5]) (wr := [(q, .inr (4, [.ref v, .int (nI pc), .ref q0, .ref q1, .ref q2, .ref q3, .ref q4, .ref q5, .ref q6])), (q0, .inl (g.2.1 1, 40, .inl pH)), (q1, .inl (g.2.1 1, 40, .inl pK)), (q2, .inl (g.2.1 1, 40, .inl pA)), (q3, .inl (g.2.1 1, 40, .inl pB)), (q4, .inl (g.2.1 1, 40, .inl oE)), (q5, .inl (g.2.1 1, 40, .inl fq5_1)), (q6, .inl (g.2.1 1, 40, .inl (upd fq6_1 (tN (oE j1)) (((1 : Int32) <<< ((pB (tN (oE j1))) &&& 31)) &&& (F_X10_callable K (tN (pA (tN (oE j1)))) (tN (pH (tN (oE j1))))))))), (v, .inr (10, [.int pe, .int lc, .int de, .ref v3, .ref v4, .ref v5, .ref v6, .ref v7, .ref v8, .ref v9, .ref v10, .ref v11, .ref v12, .ref v13, .int gl, .ref v15])), (v10, .inl (g.2.1 1, 175, .inl K))]) X hW (K_X4_verdictOf l g (nI (tN (pA (tN (oE j1))))) ((upd fq6_1 (tN (oE j1)) (((1 : Int32) <<< ((pB (tN (oE j1))) &&& 31)) &&& (F_X10_callable K (tN (pA (tN (oE j1)))) (tN (pH (tN (oE j1))))))) (tN (oE j1))) x2_1) vX4_51 [] [0, 1, 2, 3, 4, 5, 6, 7, 8, 9] rfl rfl rfl rfl rfl rfl hl.1 rfl (Nat.le_of_ble_eq_true rfl) ⟨Nat.le_of_ble_eq_true rfl, Nat.le_of_ble_eq_true rfl⟩ ⟨Nat.le_of_ble_eq_true rfl, Nat.le_of_ble_eq_true rfl⟩ dX4_judge_114 (fun r15 u9 H locs hq hW => ?_)
            obtain ⟨rfl, rfl⟩ := hq
            have hW : WD g A s _ _ [(q, .inr (4, [.ref v, .int (nI pc), .ref q0, .ref q1, .ref q2, .ref q3, .ref q4, .ref q5, .ref q6])), (q0, .inl (g.2.1 1, 40, .inl pH)), (q1, .inl (g.2.1 1, 40, .inl pK)), (q2, .inl (g.2.1 1, 40, .inl pA)), (q3, .inl (g.2.1 1, 40, .inl pB)), (q4, .inl (g.2.1 1, 40, .inl oE)), (q5, .inl (g.2.1 1, 40, .inl fq5_1)), (q6, .inl (g.2.1 1, 40, .inl (upd fq6_1 (tN (oE j1)) (((1 : Int32) <<< ((pB (tN (oE j1))) &&& 31)) &&& (F_X10_callable K (tN (pA (tN (oE j1)))) (tN (pH (tN (oE j1))))))))), (v, .inr (10, [.int pe, .int lc, .int de, .ref v3, .ref v4, .ref v5, .ref v6, .ref v7, .ref v8, .ref v9, .ref v10, .ref v11, .ref v12, .ref v13, .int gl, .ref v15])), (v10, .inl (g.2.1 1, 175, .inl K))] := hW
            refine r_iast (ws' := [(q, .inr (4, [.ref v, .int (nI pc), .ref q0, .ref q1, .ref q2, .ref q3, .ref q4, .ref q5, .ref q6])), (q0, .inl (g.2.1 1, 40, .inl pH)), (q1, .inl (g.2.1 1, 40, .inl pK)), (q2, .inl (g.2.1 1, 40, .inl pA)), (q3, .inl (g.2.1 1, 40, .inl pB)), (q4, .inl (g.2.1 1, 40, .inl oE)), (q5, .inl (g.2.1 1, 40, .inl (upd fq5_1 (tN (oE j1)) (F_X4_verdictOf (nI (tN (pA (tN (oE j1))))) ((upd fq6_1 (tN (oE j1)) (((1 : Int32) <<< ((pB (tN (oE j1))) &&& 31)) &&& (F_X10_callable K (tN (pA (tN (oE j1)))) (tN (pH (tN (oE j1))))))) (tN (oE j1))) x2_1)))), (q6, .inl (g.2.1 1, 40, .inl (upd fq6_1 (tN (oE j1)) (((1 : Int32) <<< ((pB (tN (oE j1))) &&& 31)) &&& (F_X10_callable K (tN (pA (tN (oE j1)))) (tN (pH (tN (oE j1))))))))), (v, .inr (10, [.int pe, .int lc, .int de, .ref v3, .ref v4, .ref v5, .ref v6, .ref v7, .ref v8, .ref v9, .ref v10, .ref v11, .ref v12, .ref v13, .int gl, .ref v15])), (v10, .inl (g.2.1 1, 175, .inl K))]) X hW 6 rfl (vp_in_nI (by omega) (by decide)) (f' := (upd fq5_1 (tN (oE j1)) (F_X4_verdictOf (nI (tN (pA (tN (oE j1))))) ((upd fq6_1 (tN (oE j1)) (((1 : Int32) <<< ((pB (tN (oE j1))) &&& 31)) &&& (F_X10_callable K (tN (pA (tN (oE j1)))) (tN (pH (tN (oE j1))))))) (tN (oE j1))) x2_1))) (by rw [nI_clamp (by omega)]) rfl dX4_judge_117 (fun H locs hW => ?_)
            refine lv_aload_n (pc := 118) hx hb dX4_judge_118 rfl (lv_at hl 6 rfl) ?_
            refine r_get X hW 0 ciX4 7 rfl (by decide) m_582 rfl rfl dX4_judge_119 ?_
            refine lv_iload (pc := 122) hx hb dX4_judge_122 (lv_at hl 2 rfl) ?_
            refine r_iald X hW 6 rfl (vp_in_nI (by omega) (by decide)) dX4_judge_124 ?_
            refine lv_topi (fun v16 ev16 => ?_)
            obtain rfl : v16 = (upd fq5_1 (tN (oE j1)) (F_X4_verdictOf (nI (tN (pA (tN (oE j1))))) ((upd fq6_1 (tN (oE j1)) (((1 : Int32) <<< ((pB (tN (oE j1))) &&& 31)) &&& (F_X10_callable K (tN (pA (tN (oE j1)))) (tN (pH (tN (oE j1))))))) (tN (oE j1))) x2_1)) (tN (oE j1)) := ev16.trans (by rw [nI_clamp (by omega)])
            refine lv_if_ne (tgt := 143) (pc := 125) hx hb dX4_judge_125 rfl (fun c17 => ?_) (fun c17 => ?_)
            · refine lv_iinc (v := nI (j1 + 1)) (lv' := [(3, .int (nI (j1 + 1))), (6, .int ((1 : Int32) <<< ((pB (tN (oE j1))) &&& 31))), (5, .int (nI (tN (pA (tN (oE j1)))))), (4, .int (nI (tN (oE j1)))), (2, .int x2_1), (1, .int x1_1), (0, .ref q)]) (pc := 143) hx hb dX4_judge_143 hl (k := 3) rfl (nI_add j1 1) (by decide) rfl (fun ls hl => ?_)
              refine lv_goto (tgt := 6) (pc := 146) hx hb dX4_judge_146 rfl ?_
              exact ih1 (j1 + 1) x2_1 x1_1 (upd fq5_1 (tN (oE j1)) (F_X4_verdictOf (nI (tN (pA (tN (oE j1))))) ((upd fq6_1 (tN (oE j1)) (((1 : Int32) <<< ((pB (tN (oE j1))) &&& 31)) &&& (F_X10_callable K (tN (pA (tN (oE j1)))) (tN (pH (tN (oE j1))))))) (tN (oE j1))) x2_1)) (upd fq6_1 (tN (oE j1)) (((1 : Int32) <<< ((pB (tN (oE j1))) &&& 31)) &&& (F_X10_callable K (tN (pA (tN (oE j1)))) (tN (pH (tN (oE j1))))))) (by omega) (by omega) (by rw [L1_X4_judge, ← hst1]; exact (show L1_X4_judges pH pK pA pB oE K j1 x2_1 x1_1 fq5_1 fq6_1 = (x2_1, x1_1, (upd fq5_1 (tN (oE j1)) (F_X4_verdictOf (nI (tN (pA (tN (oE j1))))) ((upd fq6_1 (tN (oE j1)) (((1 : Int32) <<< ((pB (tN (oE j1))) &&& 31)) &&& (F_X10_callable K (tN (pA (tN (oE j1)))) (tN (pH (tN (oE j1))))))) (tN (oE j1))) x2_1)), (upd fq6_1 (tN (oE j1)) (((1 : Int32) <<< ((pB (tN (oE j1))) &&& 31)) &&& (F_X10_callable K (tN (pA (tN (oE j1)))) (tN (pH (tN (oE j1)))))))) from by rw [L1_X4_judges, if_pos c6, if_neg c10, if_neg c17]).symm) _ _ _ hW (lv_sub hl [0, 4, 5, 6] rfl)
            · refine lv_iload_n (pc := 128) hx hb dX4_judge_128 rfl (lv_at hl 4 rfl) ?_
              refine lv_iconst (v := 1) (pc := 129) hx hb dX4_judge_129 (by decide) ?_
              refine lv_iload (pc := 130) hx hb dX4_judge_130 (lv_at hl 1 rfl) ?_
              refine lv_ishl (pc := 132) hx hb dX4_judge_132 ?_
              refine lv_aload_n (pc := 133) hx hb dX4_judge_133 rfl (lv_at hl 6 rfl) ?_
              refine r_get X hW 0 ciX4 8 rfl (by decide) m_585 rfl rfl dX4_judge_134 ?_
              refine lv_iload (pc := 137) hx hb dX4_judge_137 (lv_at hl 2 rfl) ?_
              refine r_iald X hW 7 rfl (vp_in_nI (by omega) (by decide)) dX4_judge_139 ?_
              refine lv_topi (fun v20 ev20 => ?_)
              obtain rfl : v20 = (upd fq6_1 (tN (oE j1)) (((1 : Int32) <<< ((pB (tN (oE j1))) &&& 31)) &&& (F_X10_callable K (tN (pA (tN (oE j1)))) (tN (pH (tN (oE j1))))))) (tN (oE j1)) := ev20.trans (by rw [nI_clamp (by omega)])
              refine lv_ior (pc := 140) hx hb dX4_judge_140 ?_
              refine lv_ior (pc := 141) hx hb dX4_judge_141 ?_
              refine lv_istore_n (lv' := [(2, .int (x2_1 ||| (((1 : Int32) <<< ((nI (tN (pA (tN (oE j1))))) &&& 31)) ||| ((upd fq6_1 (tN (oE j1)) (((1 : Int32) <<< ((pB (tN (oE j1))) &&& 31)) &&& (F_X10_callable K (tN (pA (tN (oE j1)))) (tN (pH (tN (oE j1))))))) (tN (oE j1)))))), (6, .int ((1 : Int32) <<< ((pB (tN (oE j1))) &&& 31))), (5, .int (nI (tN (pA (tN (oE j1)))))), (4, .int (nI (tN (oE j1)))), (3, .int (nI j1)), (1, .int x1_1), (0, .ref q)]) (pc := 142) hx hb dX4_judge_142 rfl hl (by decide) rfl (fun ls hl => ?_)
              refine lv_iinc (v := nI (j1 + 1)) (lv' := [(3, .int (nI (j1 + 1))), (2, .int (x2_1 ||| (((1 : Int32) <<< ((nI (tN (pA (tN (oE j1))))) &&& 31)) ||| ((upd fq6_1 (tN (oE j1)) (((1 : Int32) <<< ((pB (tN (oE j1))) &&& 31)) &&& (F_X10_callable K (tN (pA (tN (oE j1)))) (tN (pH (tN (oE j1))))))) (tN (oE j1)))))), (6, .int ((1 : Int32) <<< ((pB (tN (oE j1))) &&& 31))), (5, .int (nI (tN (pA (tN (oE j1)))))), (4, .int (nI (tN (oE j1)))), (1, .int x1_1), (0, .ref q)]) (pc := 143) hx hb dX4_judge_143 hl (k := 4) rfl (nI_add j1 1) (by decide) rfl (fun ls hl => ?_)
              refine lv_goto (tgt := 6) (pc := 146) hx hb dX4_judge_146 rfl ?_
              exact ih1 (j1 + 1) (x2_1 ||| (((1 : Int32) <<< ((nI (tN (pA (tN (oE j1))))) &&& 31)) ||| ((upd fq6_1 (tN (oE j1)) (((1 : Int32) <<< ((pB (tN (oE j1))) &&& 31)) &&& (F_X10_callable K (tN (pA (tN (oE j1)))) (tN (pH (tN (oE j1))))))) (tN (oE j1))))) x1_1 (upd fq5_1 (tN (oE j1)) (F_X4_verdictOf (nI (tN (pA (tN (oE j1))))) ((upd fq6_1 (tN (oE j1)) (((1 : Int32) <<< ((pB (tN (oE j1))) &&& 31)) &&& (F_X10_callable K (tN (pA (tN (oE j1)))) (tN (pH (tN (oE j1))))))) (tN (oE j1))) x2_1)) (upd fq6_1 (tN (oE j1)) (((1 : Int32) <<< ((pB (tN (oE j1))) &&& 31)) &&& (F_X10_callable K (tN (pA (tN (oE j1)))) (tN (pH (tN (oE j1))))))) (by omega) (by omega) (by rw [L1_X4_judge, ← hst1]; exact (show L1_X4_judges pH pK pA pB oE K j1 x2_1 x1_1 fq5_1 fq6_1 = (x2_1 ||| (((1 : Int32) <<< ((nI (tN (pA (tN (oE j1))))) &&& 31)) ||| ((upd fq6_1 (tN (oE j1)) (((1 : Int32) <<< ((pB (tN (oE j1))) &&& 31)) &&& (F_X10_callable K (tN (pA (tN (oE j1)))) (tN (pH (tN (oE j1))))))) (tN (oE j1)))), x1_1, (upd fq5_1 (tN (oE j1)) (F_X4_verdictOf (nI (tN (pA (tN (oE j1))))) ((upd fq6_1 (tN (oE j1)) (((1 : Int32) <<< ((pB (tN (oE j1))) &&& 31)) &&& (F_X10_callable K (tN (pA (tN (oE j1)))) (tN (pH (tN (oE j1))))))) (tN (oE j1))) x2_1)), (upd fq6_1 (tN (oE j1)) (((1 : Int32) <<< ((pB (tN (oE j1))) &&& 31)) &&& (F_X10_callable K (tN (pA (tN (oE j1)))) (tN (pH (tN (oE j1)))))))) from by rw [L1_X4_judges, if_pos c6, if_neg c10, if_pos c17]).symm) _ _ _ hW (lv_sub hl [0, 1, 5, 6] rfl)
          · refine lv_iconst (v := (-1)) (pc := 63) hx hb dX4_judge_63 (by decide) ?_
            refine lv_goto (tgt := 76) (pc := 64) hx hb dX4_judge_64 rfl ?_
            refine lv_istore (lv' := [(6, .int (-1)), (5, .int (nI (tN (pA (tN (oE j1)))))), (4, .int (nI (tN (oE j1)))), (3, .int (nI j1)), (2, .int x2_1), (1, .int x1_1), (0, .ref q)]) (pc := 76) hx hb dX4_judge_76 hl (by decide) rfl (fun ls hl => ?_)
            refine lv_aload_n (pc := 78) hx hb dX4_judge_78 rfl (lv_at hl 6 rfl) ?_
            refine r_get X hW 0 ciX4 8 rfl (by decide) m_585 rfl rfl dX4_judge_79 ?_
            refine lv_iload (pc := 82) hx hb dX4_judge_82 (lv_at hl 2 rfl) ?_
            refine lv_iload (pc := 84) hx hb dX4_judge_84 (lv_at hl 0 rfl) ?_
            refine lv_aload_n (pc := 86) hx hb dX4_judge_86 rfl (lv_at hl 6 rfl) ?_
            refine r_get X hW 0 ciX4 0 rfl (by decide) m_566 rfl rfl dX4_judge_87 ?_
            refine lv_iload (pc := 90) hx hb dX4_judge_90 (lv_at hl 1 rfl) ?_
            refine lv_iload_n (pc := 92) hx hb dX4_judge_92 rfl (lv_at hl 5 rfl) ?_
            rw [show x1_1 = nI (tN (pH (tN (oE j1)))) from c6.symm.trans hHj.1]
            refine c_Vi (pc := 93) (As := [.int (nI (tN (pA (tN (oE j1))))), .int (nI (tN (pH (tN (oE j1)))))]) (rest := [.int (-1), .int (nI (tN (oE j1))), .ref q6]) (wr := [(q, .inr (4, [.ref v, .int (nI pc), .ref q0, .ref q1, .ref q2, .ref q3, .ref q4, .ref q5, .ref q6])), (q0, .inl (g.2.1 1, 40, .inl pH)), (q1, .inl (g.2.1 1, 40, .inl pK)), (q2, .inl (g.2.1 1, 40, .inl pA)), (q3, .inl (g.2.1 1, 40, .inl pB)), (q4, .inl (g.2.1 1, 40, .inl oE)), (q5, .inl (g.2.1 1, 40, .inl fq5_1)), (q6, .inl (g.2.1 1, 40, .inl fq6_1))]) X hW 8 ciX10 rfl (K_X10_callable l g v v3 v4 v5 v6 v7 v8 v9 v10 v11 v12 v13 v15 pe lc de gl K (tN (pA (tN (oE j1)))) (tN (pH (tN (oE j1)))) (by omega) (by omega)) vX4_45 [8, 9] [0, 1, 2, 3, 4, 5, 6, 7] rfl rfl rfl rfl rfl rfl hl.1 rfl (Nat.le_of_ble_eq_true rfl) ⟨Nat.le_of_ble_eq_true rfl, Nat.le_of_ble_eq_true rfl⟩ ⟨Nat.le_of_ble_eq_true rfl, Nat.le_of_ble_eq_true rfl⟩ dX4_judge_93 (fun r22 u9 H locs hq hW => ?_)
            obtain ⟨rfl, rfl⟩ := hq
            have hW : WD g A s _ _ [(q, .inr (4, [.ref v, .int (nI pc), .ref q0, .ref q1, .ref q2, .ref q3, .ref q4, .ref q5, .ref q6])), (q0, .inl (g.2.1 1, 40, .inl pH)), (q1, .inl (g.2.1 1, 40, .inl pK)), (q2, .inl (g.2.1 1, 40, .inl pA)), (q3, .inl (g.2.1 1, 40, .inl pB)), (q4, .inl (g.2.1 1, 40, .inl oE)), (q5, .inl (g.2.1 1, 40, .inl fq5_1)), (q6, .inl (g.2.1 1, 40, .inl fq6_1)), (v, .inr (10, [.int pe, .int lc, .int de, .ref v3, .ref v4, .ref v5, .ref v6, .ref v7, .ref v8, .ref v9, .ref v10, .ref v11, .ref v12, .ref v13, .int gl, .ref v15])), (v10, .inl (g.2.1 1, 175, .inl K))] := hW
            refine lv_iand (pc := 96) hx hb dX4_judge_96 ?_
            refine r_iast (ws' := [(q, .inr (4, [.ref v, .int (nI pc), .ref q0, .ref q1, .ref q2, .ref q3, .ref q4, .ref q5, .ref q6])), (q0, .inl (g.2.1 1, 40, .inl pH)), (q1, .inl (g.2.1 1, 40, .inl pK)), (q2, .inl (g.2.1 1, 40, .inl pA)), (q3, .inl (g.2.1 1, 40, .inl pB)), (q4, .inl (g.2.1 1, 40, .inl oE)), (q5, .inl (g.2.1 1, 40, .inl fq5_1)), (q6, .inl (g.2.1 1, 40, .inl (upd fq6_1 (tN (oE j1)) ((-1 : Int32) &&& (F_X10_callable K (tN (pA (tN (oE j1)))) (tN (pH (tN (oE j1))))))))), (v, .inr (10, [.int pe, .int lc, .int de, .ref v3, .ref v4, .ref v5, .ref v6, .ref v7, .ref v8, .ref v9, .ref v10, .ref v11, .ref v12, .ref v13, .int gl, .ref v15])), (v10, .inl (g.2.1 1, 175, .inl K))]) X hW 7 rfl (vp_in_nI (by omega) (by decide)) (f' := (upd fq6_1 (tN (oE j1)) ((-1 : Int32) &&& (F_X10_callable K (tN (pA (tN (oE j1)))) (tN (pH (tN (oE j1)))))))) (by rw [nI_clamp (by omega)]) rfl dX4_judge_97 (fun H locs hW => ?_)
            refine lv_aload_n (pc := 98) hx hb dX4_judge_98 rfl (lv_at hl 6 rfl) ?_
            refine r_get X hW 0 ciX4 7 rfl (by decide) m_582 rfl rfl dX4_judge_99 ?_
            refine lv_iload (pc := 102) hx hb dX4_judge_102 (lv_at hl 2 rfl) ?_
            refine lv_iload (pc := 104) hx hb dX4_judge_104 (lv_at hl 1 rfl) ?_
            refine lv_aload_n (pc := 106) hx hb dX4_judge_106 rfl (lv_at hl 6 rfl) ?_
            refine r_get X hW 0 ciX4 8 rfl (by decide) m_585 rfl rfl dX4_judge_107 ?_
            refine lv_iload (pc := 110) hx hb dX4_judge_110 (lv_at hl 2 rfl) ?_
            refine r_iald X hW 7 rfl (vp_in_nI (by omega) (by decide)) dX4_judge_112 ?_
            refine lv_topi (fun v23 ev23 => ?_)
            obtain rfl : v23 = (upd fq6_1 (tN (oE j1)) ((-1 : Int32) &&& (F_X10_callable K (tN (pA (tN (oE j1)))) (tN (pH (tN (oE j1))))))) (tN (oE j1)) := ev23.trans (by rw [nI_clamp (by omega)])
            refine lv_iload_n (pc := 113) hx hb dX4_judge_113 rfl (lv_at hl 4 rfl) ?_
            refine c_Si (pc := 114) (As := [.int (nI (tN (pA (tN (oE j1))))), .int ((upd fq6_1 (tN (oE j1)) ((-1 : Int32) &&& (F_X10_callable K (tN (pA (tN (oE j1)))) (tN (pH (tN (oE j1))))))) (tN (oE j1))), .int x2_1]) (rest := [.int (nI (tN (oE j1))), .ref q5]) (wr := [(q, .inr (4, [.ref v, .int (nI pc), .ref q0, .ref q1, .ref q2, .ref q3, .ref q4, .ref q5, .ref q6])), (q0, .inl (g.2.1 1, 40, .inl pH)), (q1, .inl (g.2.1 1, 40, .inl pK)), (q2, .inl (g.2.1 1, 40, .inl pA)), (q3, .inl (g.2.1 1, 40, .inl pB)), (q4, .inl (g.2.1 1, 40, .inl oE)), (q5, .inl (g.2.1 1, 40, .inl fq5_1)), (q6, .inl (g.2.1 1, 40, .inl (upd fq6_1 (tN (oE j1)) ((-1 : Int32) &&& (F_X10_callable K (tN (pA (tN (oE j1)))) (tN (pH (tN (oE j1))))))))), (v, .inr (10, [.int pe, .int lc, .int de, .ref v3, .ref v4, .ref v5, .ref v6, .ref v7, .ref v8, .ref v9, .ref v10, .ref v11, .ref v12, .ref v13, .int gl, .ref v15])), (v10, .inl (g.2.1 1, 175, .inl K))]) X hW (K_X4_verdictOf l g (nI (tN (pA (tN (oE j1))))) ((upd fq6_1 (tN (oE j1)) ((-1 : Int32) &&& (F_X10_callable K (tN (pA (tN (oE j1)))) (tN (pH (tN (oE j1))))))) (tN (oE j1))) x2_1) vX4_51 [] [0, 1, 2, 3, 4, 5, 6, 7, 8, 9] rfl rfl rfl rfl rfl rfl hl.1 rfl (Nat.le_of_ble_eq_true rfl) ⟨Nat.le_of_ble_eq_true rfl, Nat.le_of_ble_eq_true rfl⟩ ⟨Nat.le_of_ble_eq_true rfl, Nat.le_of_ble_eq_true rfl⟩ dX4_judge_114 (fun r24 u9 H locs hq hW => ?_)
            obtain ⟨rfl, rfl⟩ := hq
            have hW : WD g A s _ _ [(q, .inr (4, [.ref v, .int (nI pc), .ref q0, .ref q1, .ref q2, .ref q3, .ref q4, .ref q5, .ref q6])), (q0, .inl (g.2.1 1, 40, .inl pH)), (q1, .inl (g.2.1 1, 40, .inl pK)), (q2, .inl (g.2.1 1, 40, .inl pA)), (q3, .inl (g.2.1 1, 40, .inl pB)), (q4, .inl (g.2.1 1, 40, .inl oE)), (q5, .inl (g.2.1 1, 40, .inl fq5_1)), (q6, .inl (g.2.1 1, 40, .inl (upd fq6_1 (tN (oE j1)) ((-1 : Int32) &&& (F_X10_callable K (tN (pA (tN (oE j1)))) (tN (pH (tN (oE j1))))))))), (v, .inr (10, [.int pe, .int lc, .int de, .ref v3, .ref v4, .ref v5, .ref v6, .ref v7, .ref v8, .ref v9, .ref v10, .ref v11, .ref v12, .ref v13, .int gl, .ref v15])), (v10, .inl (g.2.1 1, 175, .inl K))] := hW
            refine r_iast (ws' := [(q, .inr (4, [.ref v, .int (nI pc), .ref q0, .ref q1, .ref q2, .ref q3, .ref q4, .ref q5, .ref q6])), (q0, .inl (g.2.1 1, 40, .inl pH)), (q1, .inl (g.2.1 1, 40, .inl pK)), (q2, .inl (g.2.1 1, 40, .inl pA)), (q3, .inl (g.2.1 1, 40, .inl pB)), (q4, .inl (g.2.1 1, 40, .inl oE)), (q5, .inl (g.2.1 1, 40, .inl (upd fq5_1 (tN (oE j1)) (F_X4_verdictOf (nI (tN (pA (tN (oE j1))))) ((upd fq6_1 (tN (oE j1)) ((-1 : Int32) &&& (F_X10_callable K (tN (pA (tN (oE j1)))) (tN (pH (tN (oE j1))))))) (tN (oE j1))) x2_1)))), (q6, .inl (g.2.1 1, 40, .inl (upd fq6_1 (tN (oE j1)) ((-1 : Int32) &&& (F_X10_callable K (tN (pA (tN (oE j1)))) (tN (pH (tN (oE j1))))))))), (v, .inr (10, [.int pe, .int lc, .int de, .ref v3, .ref v4, .ref v5, .ref v6, .ref v7, .ref v8, .ref v9, .ref v10, .ref v11, .ref v12, .ref v13, .int gl, .ref v15])), (v10, .inl (g.2.1 1, 175, .inl K))]) X hW 6 rfl (vp_in_nI (by omega) (by decide)) (f' := (upd fq5_1 (tN (oE j1)) (F_X4_verdictOf (nI (tN (pA (tN (oE j1))))) ((upd fq6_1 (tN (oE j1)) ((-1 : Int32) &&& (F_X10_callable K (tN (pA (tN (oE j1)))) (tN (pH (tN (oE j1))))))) (tN (oE j1))) x2_1))) (by rw [nI_clamp (by omega)]) rfl dX4_judge_117 (fun H locs hW => ?_)
            refine lv_aload_n (pc := 118) hx hb dX4_judge_118 rfl (lv_at hl 6 rfl) ?_
            refine r_get X hW 0 ciX4 7 rfl (by decide) m_582 rfl rfl dX4_judge_119 ?_
            refine lv_iload (pc := 122) hx hb dX4_judge_122 (lv_at hl 2 rfl) ?_
            refine r_iald X hW 6 rfl (vp_in_nI (by omega) (by decide)) dX4_judge_124 ?_
            refine lv_topi (fun v25 ev25 => ?_)
            obtain rfl : v25 = (upd fq5_1 (tN (oE j1)) (F_X4_verdictOf (nI (tN (pA (tN (oE j1))))) ((upd fq6_1 (tN (oE j1)) ((-1 : Int32) &&& (F_X10_callable K (tN (pA (tN (oE j1)))) (tN (pH (tN (oE j1))))))) (tN (oE j1))) x2_1)) (tN (oE j1)) := ev25.trans (by rw [nI_clamp (by omega)])
            refine lv_if_ne (tgt := 143) (pc := 125) hx hb dX4_judge_125 rfl (fun c26 => ?_) (fun c26 => ?_)
            · refine lv_iinc (v := nI (j1 + 1)) (lv' := [(3, .int (nI (j1 + 1))), (6, .int (-1)), (5, .int (nI (tN (pA (tN (oE j1)))))), (4, .int (nI (tN (oE j1)))), (2, .int x2_1), (1, .int x1_1), (0, .ref q)]) (pc := 143) hx hb dX4_judge_143 hl (k := 3) rfl (nI_add j1 1) (by decide) rfl (fun ls hl => ?_)
              refine lv_goto (tgt := 6) (pc := 146) hx hb dX4_judge_146 rfl ?_
              exact ih1 (j1 + 1) x2_1 x1_1 (upd fq5_1 (tN (oE j1)) (F_X4_verdictOf (nI (tN (pA (tN (oE j1))))) ((upd fq6_1 (tN (oE j1)) ((-1 : Int32) &&& (F_X10_callable K (tN (pA (tN (oE j1)))) (tN (pH (tN (oE j1))))))) (tN (oE j1))) x2_1)) (upd fq6_1 (tN (oE j1)) ((-1 : Int32) &&& (F_X10_callable K (tN (pA (tN (oE j1)))) (tN (pH (tN (oE j1))))))) (by omega) (by omega) (by rw [L1_X4_judge, ← hst1]; exact (show L1_X4_judges pH pK pA pB oE K j1 x2_1 x1_1 fq5_1 fq6_1 = (x2_1, x1_1, (upd fq5_1 (tN (oE j1)) (F_X4_verdictOf (nI (tN (pA (tN (oE j1))))) ((upd fq6_1 (tN (oE j1)) ((-1 : Int32) &&& (F_X10_callable K (tN (pA (tN (oE j1)))) (tN (pH (tN (oE j1))))))) (tN (oE j1))) x2_1)), (upd fq6_1 (tN (oE j1)) ((-1 : Int32) &&& (F_X10_callable K (tN (pA (tN (oE j1)))) (tN (pH (tN (oE j1)))))))) from by rw [L1_X4_judges, if_pos c6, if_pos c10, if_neg c26]).symm) _ _ _ hW (lv_sub hl [0, 4, 5, 6] rfl)
            · refine lv_iload_n (pc := 128) hx hb dX4_judge_128 rfl (lv_at hl 4 rfl) ?_
              refine lv_iconst (v := 1) (pc := 129) hx hb dX4_judge_129 (by decide) ?_
              refine lv_iload (pc := 130) hx hb dX4_judge_130 (lv_at hl 1 rfl) ?_
              refine lv_ishl (pc := 132) hx hb dX4_judge_132 ?_
              refine lv_aload_n (pc := 133) hx hb dX4_judge_133 rfl (lv_at hl 6 rfl) ?_
              refine r_get X hW 0 ciX4 8 rfl (by decide) m_585 rfl rfl dX4_judge_134 ?_
              refine lv_iload (pc := 137) hx hb dX4_judge_137 (lv_at hl 2 rfl) ?_
              refine r_iald X hW 7 rfl (vp_in_nI (by omega) (by decide)) dX4_judge_139 ?_
              refine lv_topi (fun v29 ev29 => ?_)
              obtain rfl : v29 = (upd fq6_1 (tN (oE j1)) ((-1 : Int32) &&& (F_X10_callable K (tN (pA (tN (oE j1)))) (tN (pH (tN (oE j1))))))) (tN (oE j1)) := ev29.trans (by rw [nI_clamp (by omega)])
              refine lv_ior (pc := 140) hx hb dX4_judge_140 ?_
              refine lv_ior (pc := 141) hx hb dX4_judge_141 ?_
              refine lv_istore_n (lv' := [(2, .int (x2_1 ||| (((1 : Int32) <<< ((nI (tN (pA (tN (oE j1))))) &&& 31)) ||| ((upd fq6_1 (tN (oE j1)) ((-1 : Int32) &&& (F_X10_callable K (tN (pA (tN (oE j1)))) (tN (pH (tN (oE j1))))))) (tN (oE j1)))))), (6, .int (-1)), (5, .int (nI (tN (pA (tN (oE j1)))))), (4, .int (nI (tN (oE j1)))), (3, .int (nI j1)), (1, .int x1_1), (0, .ref q)]) (pc := 142) hx hb dX4_judge_142 rfl hl (by decide) rfl (fun ls hl => ?_)
              refine lv_iinc (v := nI (j1 + 1)) (lv' := [(3, .int (nI (j1 + 1))), (2, .int (x2_1 ||| (((1 : Int32) <<< ((nI (tN (pA (tN (oE j1))))) &&& 31)) ||| ((upd fq6_1 (tN (oE j1)) ((-1 : Int32) &&& (F_X10_callable K (tN (pA (tN (oE j1)))) (tN (pH (tN (oE j1))))))) (tN (oE j1)))))), (6, .int (-1)), (5, .int (nI (tN (pA (tN (oE j1)))))), (4, .int (nI (tN (oE j1)))), (1, .int x1_1), (0, .ref q)]) (pc := 143) hx hb dX4_judge_143 hl (k := 4) rfl (nI_add j1 1) (by decide) rfl (fun ls hl => ?_)
              refine lv_goto (tgt := 6) (pc := 146) hx hb dX4_judge_146 rfl ?_
              exact ih1 (j1 + 1) (x2_1 ||| (((1 : Int32) <<< ((nI (tN (pA (tN (oE j1))))) &&& 31)) ||| ((upd fq6_1 (tN (oE j1)) ((-1 : Int32) &&& (F_X10_callable K (tN (pA (tN (oE j1)))) (tN (pH (tN (oE j1))))))) (tN (oE j1))))) x1_1 (upd fq5_1 (tN (oE j1)) (F_X4_verdictOf (nI (tN (pA (tN (oE j1))))) ((upd fq6_1 (tN (oE j1)) ((-1 : Int32) &&& (F_X10_callable K (tN (pA (tN (oE j1)))) (tN (pH (tN (oE j1))))))) (tN (oE j1))) x2_1)) (upd fq6_1 (tN (oE j1)) ((-1 : Int32) &&& (F_X10_callable K (tN (pA (tN (oE j1)))) (tN (pH (tN (oE j1))))))) (by omega) (by omega) (by rw [L1_X4_judge, ← hst1]; exact (show L1_X4_judges pH pK pA pB oE K j1 x2_1 x1_1 fq5_1 fq6_1 = (x2_1 ||| (((1 : Int32) <<< ((nI (tN (pA (tN (oE j1))))) &&& 31)) ||| ((upd fq6_1 (tN (oE j1)) ((-1 : Int32) &&& (F_X10_callable K (tN (pA (tN (oE j1)))) (tN (pH (tN (oE j1))))))) (tN (oE j1)))), x1_1, (upd fq5_1 (tN (oE j1)) (F_X4_verdictOf (nI (tN (pA (tN (oE j1))))) ((upd fq6_1 (tN (oE j1)) ((-1 : Int32) &&& (F_X10_callable K (tN (pA (tN (oE j1)))) (tN (pH (tN (oE j1))))))) (tN (oE j1))) x2_1)), (upd fq6_1 (tN (oE j1)) ((-1 : Int32) &&& (F_X10_callable K (tN (pA (tN (oE j1)))) (tN (pH (tN (oE j1)))))))) from by rw [L1_X4_judges, if_pos c6, if_pos c10, if_pos c26]).symm) _ _ _ hW (lv_sub hl [0, 1, 5, 6] rfl)
        · refine lv_aload_n (pc := 33) hx hb dX4_judge_33 rfl (lv_at hl 4 rfl) ?_
          refine r_get X hW 0 ciX4 2 rfl (by decide) m_572 rfl rfl dX4_judge_34 ?_
          refine lv_iload (pc := 37) hx hb dX4_judge_37 (lv_at hl 0 rfl) ?_
          refine r_iald X hW 1 rfl (vp_in_nI (by omega) (by decide)) dX4_judge_39 ?_
          refine lv_topi (fun v31 ev31 => ?_)
          obtain rfl : v31 = pH (tN (oE j1)) := ev31.trans (by rw [nI_clamp (by omega)])
          refine lv_istore_n (lv' := [(1, .int (pH (tN (oE j1)))), (4, .int (nI (tN (oE j1)))), (3, .int (nI j1)), (2, .int x2_1), (0, .ref q)]) (pc := 40) hx hb dX4_judge_40 rfl hl (by decide) rfl (fun ls hl => ?_)
          refine lv_iconst (v := 0) (pc := 41) hx hb dX4_judge_41 (by decide) ?_
          refine lv_istore_n (lv' := [(2, .int 0), (1, .int (pH (tN (oE j1)))), (4, .int (nI (tN (oE j1)))), (3, .int (nI j1)), (0, .ref q)]) (pc := 42) hx hb dX4_judge_42 rfl hl (by decide) rfl (fun ls hl => ?_)
          refine lv_aload_n (pc := 43) hx hb dX4_judge_43 rfl (lv_at hl 4 rfl) ?_
          refine r_get X hW 0 ciX4 4 rfl (by decide) m_576 rfl rfl dX4_judge_44 ?_
          refine lv_iload (pc := 47) hx hb dX4_judge_47 (lv_at hl 2 rfl) ?_
          refine r_iald X hW 3 rfl (vp_in_nI (by omega) (by decide)) dX4_judge_49 ?_
          refine lv_topi (fun v32 ev32 => ?_)
          obtain rfl : v32 = pA (tN (oE j1)) := ev32.trans (by rw [nI_clamp (by omega)])
          rw [hCj.1]
          refine lv_istore (lv' := [(5, .int (nI (tN (pA (tN (oE j1)))))), (2, .int 0), (1, .int (pH (tN (oE j1)))), (4, .int (nI (tN (oE j1)))), (3, .int (nI j1)), (0, .ref q)]) (pc := 50) hx hb dX4_judge_50 hl (by decide) rfl (fun ls hl => ?_)
          refine lv_aload_n (pc := 52) hx hb dX4_judge_52 rfl (lv_at hl 5 rfl) ?_
          refine r_get X hW 0 ciX4 3 rfl (by decide) m_574 rfl rfl dX4_judge_53 ?_
          refine lv_iload (pc := 56) hx hb dX4_judge_56 (lv_at hl 3 rfl) ?_
          refine r_iald X hW 2 rfl (vp_in_nI (by omega) (by decide)) dX4_judge_58 ?_
          refine lv_topi (fun v33 ev33 => ?_)
          obtain rfl : v33 = pK (tN (oE j1)) := ev33.trans (by rw [nI_clamp (by omega)])
          refine lv_iconst (v := 3) (pc := 59) hx hb dX4_judge_59 (by decide) ?_
          refine lv_icmp_ne (tgt := 67) (pc := 60) hx hb dX4_judge_60 rfl (fun c34 => ?_) (fun c34 => ?_)
          · refine lv_iconst (v := 1) (pc := 67) hx hb dX4_judge_67 (by decide) ?_
            refine lv_aload_n (pc := 68) hx hb dX4_judge_68 rfl (lv_at hl 5 rfl) ?_
            refine r_get X hW 0 ciX4 5 rfl (by decide) m_578 rfl rfl dX4_judge_69 ?_
            refine lv_iload (pc := 72) hx hb dX4_judge_72 (lv_at hl 3 rfl) ?_
            refine r_iald X hW 4 rfl (vp_in_nI (by omega) (by decide)) dX4_judge_74 ?_
            refine lv_topi (fun v36 ev36 => ?_)
            obtain rfl : v36 = pB (tN (oE j1)) := ev36.trans (by rw [nI_clamp (by omega)])
            refine lv_ishl (pc := 75) hx hb dX4_judge_75 ?_
            refine lv_istore (lv' := [(6, .int ((1 : Int32) <<< ((pB (tN (oE j1))) &&& 31))), (5, .int (nI (tN (pA (tN (oE j1)))))), (2, .int 0), (1, .int (pH (tN (oE j1)))), (4, .int (nI (tN (oE j1)))), (3, .int (nI j1)), (0, .ref q)]) (pc := 76) hx hb dX4_judge_76 hl (by decide) rfl (fun ls hl => ?_)
            refine lv_aload_n (pc := 78) hx hb dX4_judge_78 rfl (lv_at hl 6 rfl) ?_
            refine r_get X hW 0 ciX4 8 rfl (by decide) m_585 rfl rfl dX4_judge_79 ?_
            refine lv_iload (pc := 82) hx hb dX4_judge_82 (lv_at hl 4 rfl) ?_
            refine lv_iload (pc := 84) hx hb dX4_judge_84 (lv_at hl 0 rfl) ?_
            refine lv_aload_n (pc := 86) hx hb dX4_judge_86 rfl (lv_at hl 6 rfl) ?_
            refine r_get X hW 0 ciX4 0 rfl (by decide) m_566 rfl rfl dX4_judge_87 ?_
            refine lv_iload (pc := 90) hx hb dX4_judge_90 (lv_at hl 1 rfl) ?_
            refine lv_iload_n (pc := 92) hx hb dX4_judge_92 rfl (lv_at hl 3 rfl) ?_
            rw [hHj.1]
            refine c_Vi (pc := 93) (As := [.int (nI (tN (pA (tN (oE j1))))), .int (nI (tN (pH (tN (oE j1)))))]) (rest := [.int ((1 : Int32) <<< ((pB (tN (oE j1))) &&& 31)), .int (nI (tN (oE j1))), .ref q6]) (wr := [(q, .inr (4, [.ref v, .int (nI pc), .ref q0, .ref q1, .ref q2, .ref q3, .ref q4, .ref q5, .ref q6])), (q0, .inl (g.2.1 1, 40, .inl pH)), (q1, .inl (g.2.1 1, 40, .inl pK)), (q2, .inl (g.2.1 1, 40, .inl pA)), (q3, .inl (g.2.1 1, 40, .inl pB)), (q4, .inl (g.2.1 1, 40, .inl oE)), (q5, .inl (g.2.1 1, 40, .inl fq5_1)), (q6, .inl (g.2.1 1, 40, .inl fq6_1))]) X hW 8 ciX10 rfl (K_X10_callable l g v v3 v4 v5 v6 v7 v8 v9 v10 v11 v12 v13 v15 pe lc de gl K (tN (pA (tN (oE j1)))) (tN (pH (tN (oE j1)))) (by omega) (by omega)) vX4_45 [8, 9] [0, 1, 2, 3, 4, 5, 6, 7] rfl rfl rfl rfl rfl rfl hl.1 rfl (Nat.le_of_ble_eq_true rfl) ⟨Nat.le_of_ble_eq_true rfl, Nat.le_of_ble_eq_true rfl⟩ ⟨Nat.le_of_ble_eq_true rfl, Nat.le_of_ble_eq_true rfl⟩ dX4_judge_93 (fun r37 u9 H locs hq hW => ?_)
            obtain ⟨rfl, rfl⟩ := hq
            have hW : WD g A s _ _ [(q, .inr (4, [.ref v, .int (nI pc), .ref q0, .ref q1, .ref q2, .ref q3, .ref q4, .ref q5, .ref q6])), (q0, .inl (g.2.1 1, 40, .inl pH)), (q1, .inl (g.2.1 1, 40, .inl pK)), (q2, .inl (g.2.1 1, 40, .inl pA)), (q3, .inl (g.2.1 1, 40, .inl pB)), (q4, .inl (g.2.1 1, 40, .inl oE)), (q5, .inl (g.2.1 1, 40, .inl fq5_1)), (q6, .inl (g.2.1 1, 40, .inl fq6_1)), (v, .inr (10, [.int pe, .int lc, .int de, .ref v3, .ref v4, .ref v5, .ref v6, .ref v7, .ref v8, .ref v9, .ref v10, .ref v11, .ref v12, .ref v13, .int gl, .ref v15])), (v10, .inl (g.2.1 1, 175, .inl K))] := hW
            refine lv_iand (pc := 96) hx hb dX4_judge_96 ?_
            refine r_iast (ws' := [(q, .inr (4, [.ref v, .int (nI pc), .ref q0, .ref q1, .ref q2, .ref q3, .ref q4, .ref q5, .ref q6])), (q0, .inl (g.2.1 1, 40, .inl pH)), (q1, .inl (g.2.1 1, 40, .inl pK)), (q2, .inl (g.2.1 1, 40, .inl pA)), (q3, .inl (g.2.1 1, 40, .inl pB)), (q4, .inl (g.2.1 1, 40, .inl oE)), (q5, .inl (g.2.1 1, 40, .inl fq5_1)), (q6, .inl (g.2.1 1, 40, .inl (upd fq6_1 (tN (oE j1)) (((1 : Int32) <<< ((pB (tN (oE j1))) &&& 31)) &&& (F_X10_callable K (tN (pA (tN (oE j1)))) (tN (pH (tN (oE j1))))))))), (v, .inr (10, [.int pe, .int lc, .int de, .ref v3, .ref v4, .ref v5, .ref v6, .ref v7, .ref v8, .ref v9, .ref v10, .ref v11, .ref v12, .ref v13, .int gl, .ref v15])), (v10, .inl (g.2.1 1, 175, .inl K))]) X hW 7 rfl (vp_in_nI (by omega) (by decide)) (f' := (upd fq6_1 (tN (oE j1)) (((1 : Int32) <<< ((pB (tN (oE j1))) &&& 31)) &&& (F_X10_callable K (tN (pA (tN (oE j1)))) (tN (pH (tN (oE j1)))))))) (by rw [nI_clamp (by omega)]) rfl dX4_judge_97 (fun H locs hW => ?_)
            refine lv_aload_n (pc := 98) hx hb dX4_judge_98 rfl (lv_at hl 6 rfl) ?_
            refine r_get X hW 0 ciX4 7 rfl (by decide) m_582 rfl rfl dX4_judge_99 ?_
            refine lv_iload (pc := 102) hx hb dX4_judge_102 (lv_at hl 4 rfl) ?_
            refine lv_iload (pc := 104) hx hb dX4_judge_104 (lv_at hl 1 rfl) ?_
            refine lv_aload_n (pc := 106) hx hb dX4_judge_106 rfl (lv_at hl 6 rfl) ?_
            refine r_get X hW 0 ciX4 8 rfl (by decide) m_585 rfl rfl dX4_judge_107 ?_
            refine lv_iload (pc := 110) hx hb dX4_judge_110 (lv_at hl 4 rfl) ?_
            refine r_iald X hW 7 rfl (vp_in_nI (by omega) (by decide)) dX4_judge_112 ?_
            refine lv_topi (fun v38 ev38 => ?_)
            obtain rfl : v38 = (upd fq6_1 (tN (oE j1)) (((1 : Int32) <<< ((pB (tN (oE j1))) &&& 31)) &&& (F_X10_callable K (tN (pA (tN (oE j1)))) (tN (pH (tN (oE j1))))))) (tN (oE j1)) := ev38.trans (by rw [nI_clamp (by omega)])
            refine lv_iload_n (pc := 113) hx hb dX4_judge_113 rfl (lv_at hl 2 rfl) ?_
            refine c_Si (pc := 114) (As := [.int (nI (tN (pA (tN (oE j1))))), .int ((upd fq6_1 (tN (oE j1)) (((1 : Int32) <<< ((pB (tN (oE j1))) &&& 31)) &&& (F_X10_callable K (tN (pA (tN (oE j1)))) (tN (pH (tN (oE j1))))))) (tN (oE j1))), .int 0]) (rest := [.int (nI (tN (oE j1))), .ref q5]) (wr := [(q, .inr (4, [.ref v, .int (nI pc), .ref q0, .ref q1, .ref q2, .ref q3, .ref q4, .ref q5, .ref q6])), (q0, .inl (g.2.1 1, 40, .inl pH)), (q1, .inl (g.2.1 1, 40, .inl pK)), (q2, .inl (g.2.1 1, 40, .inl pA)), (q3, .inl (g.2.1 1, 40, .inl pB)), (q4, .inl (g.2.1 1, 40, .inl oE)), (q5, .inl (g.2.1 1, 40, .inl fq5_1)), (q6, .inl (g.2.1 1, 40, .inl (upd fq6_1 (tN (oE j1)) (((1 : Int32) <<< ((pB (tN (oE j1))) &&& 31)) &&& (F_X10_callable K (tN (pA (tN (oE j1)))) (tN (pH (tN (oE j1))))))))), (v, .inr (10, [.int pe, .int lc, .int de, .ref v3, .ref v4, .ref v5, .ref v6, .ref v7, .ref v8, .ref v9, .ref v10, .ref v11, .ref v12, .ref v13, .int gl, .ref v15])), (v10, .inl (g.2.1 1, 175, .inl K))]) X hW (K_X4_verdictOf l g (nI (tN (pA (tN (oE j1))))) ((upd fq6_1 (tN (oE j1)) (((1 : Int32) <<< ((pB (tN (oE j1))) &&& 31)) &&& (F_X10_callable K (tN (pA (tN (oE j1)))) (tN (pH (tN (oE j1))))))) (tN (oE j1))) (0 : Int32)) vX4_51 [] [0, 1, 2, 3, 4, 5, 6, 7, 8, 9] rfl rfl rfl rfl rfl rfl hl.1 rfl (Nat.le_of_ble_eq_true rfl) ⟨Nat.le_of_ble_eq_true rfl, Nat.le_of_ble_eq_true rfl⟩ ⟨Nat.le_of_ble_eq_true rfl, Nat.le_of_ble_eq_true rfl⟩ dX4_judge_114 (fun r39 u9 H locs hq hW => ?_)
            obtain ⟨rfl, rfl⟩ := hq
            have hW : WD g A s _ _ [(q, .inr (4, [.ref v, .int (nI pc), .ref q0, .ref q1, .ref q2, .ref q3, .ref q4, .ref q5, .ref q6])), (q0, .inl (g.2.1 1, 40, .inl pH)), (q1, .inl (g.2.1 1, 40, .inl pK)), (q2, .inl (g.2.1 1, 40, .inl pA)), (q3, .inl (g.2.1 1, 40, .inl pB)), (q4, .inl (g.2.1 1, 40, .inl oE)), (q5, .inl (g.2.1 1, 40, .inl fq5_1)), (q6, .inl (g.2.1 1, 40, .inl (upd fq6_1 (tN (oE j1)) (((1 : Int32) <<< ((pB (tN (oE j1))) &&& 31)) &&& (F_X10_callable K (tN (pA (tN (oE j1)))) (tN (pH (tN (oE j1))))))))), (v, .inr (10, [.int pe, .int lc, .int de, .ref v3, .ref v4, .ref v5, .ref v6, .ref v7, .ref v8, .ref v9, .ref v10, .ref v11, .ref v12, .ref v13, .int gl, .ref v15])), (v10, .inl (g.2.1 1, 175, .inl K))] := hW
            refine r_iast (ws' := [(q, .inr (4, [.ref v, .int (nI pc), .ref q0, .ref q1, .ref q2, .ref q3, .ref q4, .ref q5, .ref q6])), (q0, .inl (g.2.1 1, 40, .inl pH)), (q1, .inl (g.2.1 1, 40, .inl pK)), (q2, .inl (g.2.1 1, 40, .inl pA)), (q3, .inl (g.2.1 1, 40, .inl pB)), (q4, .inl (g.2.1 1, 40, .inl oE)), (q5, .inl (g.2.1 1, 40, .inl (upd fq5_1 (tN (oE j1)) (F_X4_verdictOf (nI (tN (pA (tN (oE j1))))) ((upd fq6_1 (tN (oE j1)) (((1 : Int32) <<< ((pB (tN (oE j1))) &&& 31)) &&& (F_X10_callable K (tN (pA (tN (oE j1)))) (tN (pH (tN (oE j1))))))) (tN (oE j1))) (0 : Int32))))), (q6, .inl (g.2.1 1, 40, .inl (upd fq6_1 (tN (oE j1)) (((1 : Int32) <<< ((pB (tN (oE j1))) &&& 31)) &&& (F_X10_callable K (tN (pA (tN (oE j1)))) (tN (pH (tN (oE j1))))))))), (v, .inr (10, [.int pe, .int lc, .int de, .ref v3, .ref v4, .ref v5, .ref v6, .ref v7, .ref v8, .ref v9, .ref v10, .ref v11, .ref v12, .ref v13, .int gl, .ref v15])), (v10, .inl (g.2.1 1, 175, .inl K))]) X hW 6 rfl (vp_in_nI (by omega) (by decide)) (f' := (upd fq5_1 (tN (oE j1)) (F_X4_verdictOf (nI (tN (pA (tN (oE j1))))) ((upd fq6_1 (tN (oE j1)) (((1 : Int32) <<< ((pB (tN (oE j1))) &&& 31)) &&& (F_X10_callable K (tN (pA (tN (oE j1)))) (tN (pH (tN (oE j1))))))) (tN (oE j1))) (0 : Int32)))) (by rw [nI_clamp (by omega)]) rfl dX4_judge_117 (fun H locs hW => ?_)
            refine lv_aload_n (pc := 118) hx hb dX4_judge_118 rfl (lv_at hl 6 rfl) ?_
            refine r_get X hW 0 ciX4 7 rfl (by decide) m_582 rfl rfl dX4_judge_119 ?_
            refine lv_iload (pc := 122) hx hb dX4_judge_122 (lv_at hl 4 rfl) ?_
            refine r_iald X hW 6 rfl (vp_in_nI (by omega) (by decide)) dX4_judge_124 ?_
            refine lv_topi (fun v40 ev40 => ?_)
            obtain rfl : v40 = (upd fq5_1 (tN (oE j1)) (F_X4_verdictOf (nI (tN (pA (tN (oE j1))))) ((upd fq6_1 (tN (oE j1)) (((1 : Int32) <<< ((pB (tN (oE j1))) &&& 31)) &&& (F_X10_callable K (tN (pA (tN (oE j1)))) (tN (pH (tN (oE j1))))))) (tN (oE j1))) (0 : Int32))) (tN (oE j1)) := ev40.trans (by rw [nI_clamp (by omega)])
            refine lv_if_ne (tgt := 143) (pc := 125) hx hb dX4_judge_125 rfl (fun c41 => ?_) (fun c41 => ?_)
            · refine lv_iinc (v := nI (j1 + 1)) (lv' := [(3, .int (nI (j1 + 1))), (6, .int ((1 : Int32) <<< ((pB (tN (oE j1))) &&& 31))), (5, .int (nI (tN (pA (tN (oE j1)))))), (2, .int 0), (1, .int (pH (tN (oE j1)))), (4, .int (nI (tN (oE j1)))), (0, .ref q)]) (pc := 143) hx hb dX4_judge_143 hl (k := 5) rfl (nI_add j1 1) (by decide) rfl (fun ls hl => ?_)
              refine lv_goto (tgt := 6) (pc := 146) hx hb dX4_judge_146 rfl ?_
              exact ih1 (j1 + 1) (0 : Int32) (pH (tN (oE j1))) (upd fq5_1 (tN (oE j1)) (F_X4_verdictOf (nI (tN (pA (tN (oE j1))))) ((upd fq6_1 (tN (oE j1)) (((1 : Int32) <<< ((pB (tN (oE j1))) &&& 31)) &&& (F_X10_callable K (tN (pA (tN (oE j1)))) (tN (pH (tN (oE j1))))))) (tN (oE j1))) (0 : Int32))) (upd fq6_1 (tN (oE j1)) (((1 : Int32) <<< ((pB (tN (oE j1))) &&& 31)) &&& (F_X10_callable K (tN (pA (tN (oE j1)))) (tN (pH (tN (oE j1))))))) (by omega) (by omega) (by rw [L1_X4_judge, ← hst1]; exact (show L1_X4_judges pH pK pA pB oE K j1 x2_1 x1_1 fq5_1 fq6_1 = ((0 : Int32), pH (tN (oE j1)), (upd fq5_1 (tN (oE j1)) (F_X4_verdictOf (nI (tN (pA (tN (oE j1))))) ((upd fq6_1 (tN (oE j1)) (((1 : Int32) <<< ((pB (tN (oE j1))) &&& 31)) &&& (F_X10_callable K (tN (pA (tN (oE j1)))) (tN (pH (tN (oE j1))))))) (tN (oE j1))) (0 : Int32))), (upd fq6_1 (tN (oE j1)) (((1 : Int32) <<< ((pB (tN (oE j1))) &&& 31)) &&& (F_X10_callable K (tN (pA (tN (oE j1)))) (tN (pH (tN (oE j1)))))))) from by rw [L1_X4_judges, if_neg c6, if_neg c34, if_neg c41]).symm) _ _ _ hW (lv_sub hl [0, 3, 4, 6] rfl)
            · refine lv_iload_n (pc := 128) hx hb dX4_judge_128 rfl (lv_at hl 2 rfl) ?_
              refine lv_iconst (v := 1) (pc := 129) hx hb dX4_judge_129 (by decide) ?_
              refine lv_iload (pc := 130) hx hb dX4_judge_130 (lv_at hl 1 rfl) ?_
              refine lv_ishl (pc := 132) hx hb dX4_judge_132 ?_
              refine lv_aload_n (pc := 133) hx hb dX4_judge_133 rfl (lv_at hl 6 rfl) ?_
              refine r_get X hW 0 ciX4 8 rfl (by decide) m_585 rfl rfl dX4_judge_134 ?_
              refine lv_iload (pc := 137) hx hb dX4_judge_137 (lv_at hl 4 rfl) ?_
              refine r_iald X hW 7 rfl (vp_in_nI (by omega) (by decide)) dX4_judge_139 ?_
              refine lv_topi (fun v44 ev44 => ?_)
              obtain rfl : v44 = (upd fq6_1 (tN (oE j1)) (((1 : Int32) <<< ((pB (tN (oE j1))) &&& 31)) &&& (F_X10_callable K (tN (pA (tN (oE j1)))) (tN (pH (tN (oE j1))))))) (tN (oE j1)) := ev44.trans (by rw [nI_clamp (by omega)])
              refine lv_ior (pc := 140) hx hb dX4_judge_140 ?_
              refine lv_ior (pc := 141) hx hb dX4_judge_141 ?_
              refine lv_istore_n (lv' := [(2, .int ((0 : Int32) ||| (((1 : Int32) <<< ((nI (tN (pA (tN (oE j1))))) &&& 31)) ||| ((upd fq6_1 (tN (oE j1)) (((1 : Int32) <<< ((pB (tN (oE j1))) &&& 31)) &&& (F_X10_callable K (tN (pA (tN (oE j1)))) (tN (pH (tN (oE j1))))))) (tN (oE j1)))))), (6, .int ((1 : Int32) <<< ((pB (tN (oE j1))) &&& 31))), (5, .int (nI (tN (pA (tN (oE j1)))))), (1, .int (pH (tN (oE j1)))), (4, .int (nI (tN (oE j1)))), (3, .int (nI j1)), (0, .ref q)]) (pc := 142) hx hb dX4_judge_142 rfl hl (by decide) rfl (fun ls hl => ?_)
              refine lv_iinc (v := nI (j1 + 1)) (lv' := [(3, .int (nI (j1 + 1))), (2, .int ((0 : Int32) ||| (((1 : Int32) <<< ((nI (tN (pA (tN (oE j1))))) &&& 31)) ||| ((upd fq6_1 (tN (oE j1)) (((1 : Int32) <<< ((pB (tN (oE j1))) &&& 31)) &&& (F_X10_callable K (tN (pA (tN (oE j1)))) (tN (pH (tN (oE j1))))))) (tN (oE j1)))))), (6, .int ((1 : Int32) <<< ((pB (tN (oE j1))) &&& 31))), (5, .int (nI (tN (pA (tN (oE j1)))))), (1, .int (pH (tN (oE j1)))), (4, .int (nI (tN (oE j1)))), (0, .ref q)]) (pc := 143) hx hb dX4_judge_143 hl (k := 5) rfl (nI_add j1 1) (by decide) rfl (fun ls hl => ?_)
              refine lv_goto (tgt := 6) (pc := 146) hx hb dX4_judge_146 rfl ?_
              exact ih1 (j1 + 1) ((0 : Int32) ||| (((1 : Int32) <<< ((nI (tN (pA (tN (oE j1))))) &&& 31)) ||| ((upd fq6_1 (tN (oE j1)) (((1 : Int32) <<< ((pB (tN (oE j1))) &&& 31)) &&& (F_X10_callable K (tN (pA (tN (oE j1)))) (tN (pH (tN (oE j1))))))) (tN (oE j1))))) (pH (tN (oE j1))) (upd fq5_1 (tN (oE j1)) (F_X4_verdictOf (nI (tN (pA (tN (oE j1))))) ((upd fq6_1 (tN (oE j1)) (((1 : Int32) <<< ((pB (tN (oE j1))) &&& 31)) &&& (F_X10_callable K (tN (pA (tN (oE j1)))) (tN (pH (tN (oE j1))))))) (tN (oE j1))) (0 : Int32))) (upd fq6_1 (tN (oE j1)) (((1 : Int32) <<< ((pB (tN (oE j1))) &&& 31)) &&& (F_X10_callable K (tN (pA (tN (oE j1)))) (tN (pH (tN (oE j1))))))) (by omega) (by omega) (by rw [L1_X4_judge, ← hst1]; exact (show L1_X4_judges pH pK pA pB oE K j1 x2_1 x1_1 fq5_1 fq6_1 = ((0 : Int32) ||| (((1 : Int32) <<< ((nI (tN (pA (tN (oE j1))))) &&& 31)) ||| ((upd fq6_1 (tN (oE j1)) (((1 : Int32) <<< ((pB (tN (oE j1))) &&& 31)) &&& (F_X10_callable K (tN (pA (tN (oE j1)))) (tN (pH (tN (oE j1))))))) (tN (oE j1)))), pH (tN (oE j1)), (upd fq5_1 (tN (oE j1)) (F_X4_verdictOf (nI (tN (pA (tN (oE j1))))) ((upd fq6_1 (tN (oE j1)) (((1 : Int32) <<< ((pB (tN (oE j1))) &&& 31)) &&& (F_X10_callable K (tN (pA (tN (oE j1)))) (tN (pH (tN (oE j1))))))) (tN (oE j1))) (0 : Int32))), (upd fq6_1 (tN (oE j1)) (((1 : Int32) <<< ((pB (tN (oE j1))) &&& 31)) &&& (F_X10_callable K (tN (pA (tN (oE j1)))) (tN (pH (tN (oE j1)))))))) from by rw [L1_X4_judges, if_neg c6, if_neg c34, if_pos c41]).symm) _ _ _ hW (lv_sub hl [0, 1, 4, 6] rfl)
          · refine lv_iconst (v := (-1)) (pc := 63) hx hb dX4_judge_63 (by decide) ?_
            refine lv_goto (tgt := 76) (pc := 64) hx hb dX4_judge_64 rfl ?_
            refine lv_istore (lv' := [(6, .int (-1)), (5, .int (nI (tN (pA (tN (oE j1)))))), (2, .int 0), (1, .int (pH (tN (oE j1)))), (4, .int (nI (tN (oE j1)))), (3, .int (nI j1)), (0, .ref q)]) (pc := 76) hx hb dX4_judge_76 hl (by decide) rfl (fun ls hl => ?_)
            refine lv_aload_n (pc := 78) hx hb dX4_judge_78 rfl (lv_at hl 6 rfl) ?_
            refine r_get X hW 0 ciX4 8 rfl (by decide) m_585 rfl rfl dX4_judge_79 ?_
            refine lv_iload (pc := 82) hx hb dX4_judge_82 (lv_at hl 4 rfl) ?_
            refine lv_iload (pc := 84) hx hb dX4_judge_84 (lv_at hl 0 rfl) ?_
            refine lv_aload_n (pc := 86) hx hb dX4_judge_86 rfl (lv_at hl 6 rfl) ?_
            refine r_get X hW 0 ciX4 0 rfl (by decide) m_566 rfl rfl dX4_judge_87 ?_
            refine lv_iload (pc := 90) hx hb dX4_judge_90 (lv_at hl 1 rfl) ?_
            refine lv_iload_n (pc := 92) hx hb dX4_judge_92 rfl (lv_at hl 3 rfl) ?_
            rw [hHj.1]
            refine c_Vi (pc := 93) (As := [.int (nI (tN (pA (tN (oE j1))))), .int (nI (tN (pH (tN (oE j1)))))]) (rest := [.int (-1), .int (nI (tN (oE j1))), .ref q6]) (wr := [(q, .inr (4, [.ref v, .int (nI pc), .ref q0, .ref q1, .ref q2, .ref q3, .ref q4, .ref q5, .ref q6])), (q0, .inl (g.2.1 1, 40, .inl pH)), (q1, .inl (g.2.1 1, 40, .inl pK)), (q2, .inl (g.2.1 1, 40, .inl pA)), (q3, .inl (g.2.1 1, 40, .inl pB)), (q4, .inl (g.2.1 1, 40, .inl oE)), (q5, .inl (g.2.1 1, 40, .inl fq5_1)), (q6, .inl (g.2.1 1, 40, .inl fq6_1))]) X hW 8 ciX10 rfl (K_X10_callable l g v v3 v4 v5 v6 v7 v8 v9 v10 v11 v12 v13 v15 pe lc de gl K (tN (pA (tN (oE j1)))) (tN (pH (tN (oE j1)))) (by omega) (by omega)) vX4_45 [8, 9] [0, 1, 2, 3, 4, 5, 6, 7] rfl rfl rfl rfl rfl rfl hl.1 rfl (Nat.le_of_ble_eq_true rfl) ⟨Nat.le_of_ble_eq_true rfl, Nat.le_of_ble_eq_true rfl⟩ ⟨Nat.le_of_ble_eq_true rfl, Nat.le_of_ble_eq_true rfl⟩ dX4_judge_93 (fun r46 u9 H locs hq hW => ?_)
            obtain ⟨rfl, rfl⟩ := hq
            have hW : WD g A s _ _ [(q, .inr (4, [.ref v, .int (nI pc), .ref q0, .ref q1, .ref q2, .ref q3, .ref q4, .ref q5, .ref q6])), (q0, .inl (g.2.1 1, 40, .inl pH)), (q1, .inl (g.2.1 1, 40, .inl pK)), (q2, .inl (g.2.1 1, 40, .inl pA)), (q3, .inl (g.2.1 1, 40, .inl pB)), (q4, .inl (g.2.1 1, 40, .inl oE)), (q5, .inl (g.2.1 1, 40, .inl fq5_1)), (q6, .inl (g.2.1 1, 40, .inl fq6_1)), (v, .inr (10, [.int pe, .int lc, .int de, .ref v3, .ref v4, .ref v5, .ref v6, .ref v7, .ref v8, .ref v9, .ref v10, .ref v11, .ref v12, .ref v13, .int gl, .ref v15])), (v10, .inl (g.2.1 1, 175, .inl K))] := hW
            refine lv_iand (pc := 96) hx hb dX4_judge_96 ?_
            refine r_iast (ws' := [(q, .inr (4, [.ref v, .int (nI pc), .ref q0, .ref q1, .ref q2, .ref q3, .ref q4, .ref q5, .ref q6])), (q0, .inl (g.2.1 1, 40, .inl pH)), (q1, .inl (g.2.1 1, 40, .inl pK)), (q2, .inl (g.2.1 1, 40, .inl pA)), (q3, .inl (g.2.1 1, 40, .inl pB)), (q4, .inl (g.2.1 1, 40, .inl oE)), (q5, .inl (g.2.1 1, 40, .inl fq5_1)), (q6, .inl (g.2.1 1, 40, .inl (upd fq6_1 (tN (oE j1)) ((-1 : Int32) &&& (F_X10_callable K (tN (pA (tN (oE j1)))) (tN (pH (tN (oE j1))))))))), (v, .inr (10, [.int pe, .int lc, .int de, .ref v3, .ref v4, .ref v5, .ref v6, .ref v7, .ref v8, .ref v9, .ref v10, .ref v11, .ref v12, .ref v13, .int gl, .ref v15])), (v10, .inl (g.2.1 1, 175, .inl K))]) X hW 7 rfl (vp_in_nI (by omega) (by decide)) (f' := (upd fq6_1 (tN (oE j1)) ((-1 : Int32) &&& (F_X10_callable K (tN (pA (tN (oE j1)))) (tN (pH (tN (oE j1)))))))) (by rw [nI_clamp (by omega)]) rfl dX4_judge_97 (fun H locs hW => ?_)
            refine lv_aload_n (pc := 98) hx hb dX4_judge_98 rfl (lv_at hl 6 rfl) ?_
            refine r_get X hW 0 ciX4 7 rfl (by decide) m_582 rfl rfl dX4_judge_99 ?_
            refine lv_iload (pc := 102) hx hb dX4_judge_102 (lv_at hl 4 rfl) ?_
            refine lv_iload (pc := 104) hx hb dX4_judge_104 (lv_at hl 1 rfl) ?_
            refine lv_aload_n (pc := 106) hx hb dX4_judge_106 rfl (lv_at hl 6 rfl) ?_
            refine r_get X hW 0 ciX4 8 rfl (by decide) m_585 rfl rfl dX4_judge_107 ?_
            refine lv_iload (pc := 110) hx hb dX4_judge_110 (lv_at hl 4 rfl) ?_
            refine r_iald X hW 7 rfl (vp_in_nI (by omega) (by decide)) dX4_judge_112 ?_
            refine lv_topi (fun v47 ev47 => ?_)
            obtain rfl : v47 = (upd fq6_1 (tN (oE j1)) ((-1 : Int32) &&& (F_X10_callable K (tN (pA (tN (oE j1)))) (tN (pH (tN (oE j1))))))) (tN (oE j1)) := ev47.trans (by rw [nI_clamp (by omega)])
            refine lv_iload_n (pc := 113) hx hb dX4_judge_113 rfl (lv_at hl 2 rfl) ?_
            refine c_Si (pc := 114) (As := [.int (nI (tN (pA (tN (oE j1))))), .int ((upd fq6_1 (tN (oE j1)) ((-1 : Int32) &&& (F_X10_callable K (tN (pA (tN (oE j1)))) (tN (pH (tN (oE j1))))))) (tN (oE j1))), .int 0]) (rest := [.int (nI (tN (oE j1))), .ref q5]) (wr := [(q, .inr (4, [.ref v, .int (nI pc), .ref q0, .ref q1, .ref q2, .ref q3, .ref q4, .ref q5, .ref q6])), (q0, .inl (g.2.1 1, 40, .inl pH)), (q1, .inl (g.2.1 1, 40, .inl pK)), (q2, .inl (g.2.1 1, 40, .inl pA)), (q3, .inl (g.2.1 1, 40, .inl pB)), (q4, .inl (g.2.1 1, 40, .inl oE)), (q5, .inl (g.2.1 1, 40, .inl fq5_1)), (q6, .inl (g.2.1 1, 40, .inl (upd fq6_1 (tN (oE j1)) ((-1 : Int32) &&& (F_X10_callable K (tN (pA (tN (oE j1)))) (tN (pH (tN (oE j1))))))))), (v, .inr (10, [.int pe, .int lc, .int de, .ref v3, .ref v4, .ref v5, .ref v6, .ref v7, .ref v8, .ref v9, .ref v10, .ref v11, .ref v12, .ref v13, .int gl, .ref v15])), (v10, .inl (g.2.1 1, 175, .inl K))]) X hW (K_X4_verdictOf l g (nI (tN (pA (tN (oE j1))))) ((upd fq6_1 (tN (oE j1)) ((-1 : Int32) &&& (F_X10_callable K (tN (pA (tN (oE j1)))) (tN (pH (tN (oE j1))))))) (tN (oE j1))) (0 : Int32)) vX4_51 [] [0, 1, 2, 3, 4, 5, 6, 7, 8, 9] rfl rfl rfl rfl rfl rfl hl.1 rfl (Nat.le_of_ble_eq_true rfl) ⟨Nat.le_of_ble_eq_true rfl, Nat.le_of_ble_eq_true rfl⟩ ⟨Nat.le_of_ble_eq_true rfl, Nat.le_of_ble_eq_true rfl⟩ dX4_judge_114 (fun r48 u9 H locs hq hW => ?_)
            obtain ⟨rfl, rfl⟩ := hq
            have hW : WD g A s _ _ [(q, .inr (4, [.ref v, .int (nI pc), .ref q0, .ref q1, .ref q2, .ref q3, .ref q4, .ref q5, .ref q6])), (q0, .inl (g.2.1 1, 40, .inl pH)), (q1, .inl (g.2.1 1, 40, .inl pK)), (q2, .inl (g.2.1 1, 40, .inl pA)), (q3, .inl (g.2.1 1, 40, .inl pB)), (q4, .inl (g.2.1 1, 40, .inl oE)), (q5, .inl (g.2.1 1, 40, .inl fq5_1)), (q6, .inl (g.2.1 1, 40, .inl (upd fq6_1 (tN (oE j1)) ((-1 : Int32) &&& (F_X10_callable K (tN (pA (tN (oE j1)))) (tN (pH (tN (oE j1))))))))), (v, .inr (10, [.int pe, .int lc, .int de, .ref v3, .ref v4, .ref v5, .ref v6, .ref v7, .ref v8, .ref v9, .ref v10, .ref v11, .ref v12, .ref v13, .int gl, .ref v15])), (v10, .inl (g.2.1 1, 175, .inl K))] := hW
            refine r_iast (ws' := [(q, .inr (4, [.ref v, .int (nI pc), .ref q0, .ref q1, .ref q2, .ref q3, .ref q4, .ref q5, .ref q6])), (q0, .inl (g.2.1 1, 40, .inl pH)), (q1, .inl (g.2.1 1, 40, .inl pK)), (q2, .inl (g.2.1 1, 40, .inl pA)), (q3, .inl (g.2.1 1, 40, .inl pB)), (q4, .inl (g.2.1 1, 40, .inl oE)), (q5, .inl (g.2.1 1, 40, .inl (upd fq5_1 (tN (oE j1)) (F_X4_verdictOf (nI (tN (pA (tN (oE j1))))) ((upd fq6_1 (tN (oE j1)) ((-1 : Int32) &&& (F_X10_callable K (tN (pA (tN (oE j1)))) (tN (pH (tN (oE j1))))))) (tN (oE j1))) (0 : Int32))))), (q6, .inl (g.2.1 1, 40, .inl (upd fq6_1 (tN (oE j1)) ((-1 : Int32) &&& (F_X10_callable K (tN (pA (tN (oE j1)))) (tN (pH (tN (oE j1))))))))), (v, .inr (10, [.int pe, .int lc, .int de, .ref v3, .ref v4, .ref v5, .ref v6, .ref v7, .ref v8, .ref v9, .ref v10, .ref v11, .ref v12, .ref v13, .int gl, .ref v15])), (v10, .inl (g.2.1 1, 175, .inl K))]) X hW 6 rfl (vp_in_nI (by omega) (by decide)) (f' := (upd fq5_1 (tN (oE j1)) (F_X4_verdictOf (nI (tN (pA (tN (oE j1))))) ((upd fq6_1 (tN (oE j1)) ((-1 : Int32) &&& (F_X10_callable K (tN (pA (tN (oE j1)))) (tN (pH (tN (oE j1))))))) (tN (oE j1))) (0 : Int32)))) (by rw [nI_clamp (by omega)]) rfl dX4_judge_117 (fun H locs hW => ?_)
            refine lv_aload_n (pc := 118) hx hb dX4_judge_118 rfl (lv_at hl 6 rfl) ?_
            refine r_get X hW 0 ciX4 7 rfl (by decide) m_582 rfl rfl dX4_judge_119 ?_
            refine lv_iload (pc := 122) hx hb dX4_judge_122 (lv_at hl 4 rfl) ?_
            refine r_iald X hW 6 rfl (vp_in_nI (by omega) (by decide)) dX4_judge_124 ?_
            refine lv_topi (fun v49 ev49 => ?_)
            obtain rfl : v49 = (upd fq5_1 (tN (oE j1)) (F_X4_verdictOf (nI (tN (pA (tN (oE j1))))) ((upd fq6_1 (tN (oE j1)) ((-1 : Int32) &&& (F_X10_callable K (tN (pA (tN (oE j1)))) (tN (pH (tN (oE j1))))))) (tN (oE j1))) (0 : Int32))) (tN (oE j1)) := ev49.trans (by rw [nI_clamp (by omega)])
            refine lv_if_ne (tgt := 143) (pc := 125) hx hb dX4_judge_125 rfl (fun c50 => ?_) (fun c50 => ?_)
            · refine lv_iinc (v := nI (j1 + 1)) (lv' := [(3, .int (nI (j1 + 1))), (6, .int (-1)), (5, .int (nI (tN (pA (tN (oE j1)))))), (2, .int 0), (1, .int (pH (tN (oE j1)))), (4, .int (nI (tN (oE j1)))), (0, .ref q)]) (pc := 143) hx hb dX4_judge_143 hl (k := 5) rfl (nI_add j1 1) (by decide) rfl (fun ls hl => ?_)
              refine lv_goto (tgt := 6) (pc := 146) hx hb dX4_judge_146 rfl ?_
              exact ih1 (j1 + 1) (0 : Int32) (pH (tN (oE j1))) (upd fq5_1 (tN (oE j1)) (F_X4_verdictOf (nI (tN (pA (tN (oE j1))))) ((upd fq6_1 (tN (oE j1)) ((-1 : Int32) &&& (F_X10_callable K (tN (pA (tN (oE j1)))) (tN (pH (tN (oE j1))))))) (tN (oE j1))) (0 : Int32))) (upd fq6_1 (tN (oE j1)) ((-1 : Int32) &&& (F_X10_callable K (tN (pA (tN (oE j1)))) (tN (pH (tN (oE j1))))))) (by omega) (by omega) (by rw [L1_X4_judge, ← hst1]; exact (show L1_X4_judges pH pK pA pB oE K j1 x2_1 x1_1 fq5_1 fq6_1 = ((0 : Int32), pH (tN (oE j1)), (upd fq5_1 (tN (oE j1)) (F_X4_verdictOf (nI (tN (pA (tN (oE j1))))) ((upd fq6_1 (tN (oE j1)) ((-1 : Int32) &&& (F_X10_callable K (tN (pA (tN (oE j1)))) (tN (pH (tN (oE j1))))))) (tN (oE j1))) (0 : Int32))), (upd fq6_1 (tN (oE j1)) ((-1 : Int32) &&& (F_X10_callable K (tN (pA (tN (oE j1)))) (tN (pH (tN (oE j1)))))))) from by rw [L1_X4_judges, if_neg c6, if_pos c34, if_neg c50]).symm) _ _ _ hW (lv_sub hl [0, 3, 4, 6] rfl)
            · refine lv_iload_n (pc := 128) hx hb dX4_judge_128 rfl (lv_at hl 2 rfl) ?_
              refine lv_iconst (v := 1) (pc := 129) hx hb dX4_judge_129 (by decide) ?_
              refine lv_iload (pc := 130) hx hb dX4_judge_130 (lv_at hl 1 rfl) ?_
              refine lv_ishl (pc := 132) hx hb dX4_judge_132 ?_
              refine lv_aload_n (pc := 133) hx hb dX4_judge_133 rfl (lv_at hl 6 rfl) ?_
              refine r_get X hW 0 ciX4 8 rfl (by decide) m_585 rfl rfl dX4_judge_134 ?_
              refine lv_iload (pc := 137) hx hb dX4_judge_137 (lv_at hl 4 rfl) ?_
              refine r_iald X hW 7 rfl (vp_in_nI (by omega) (by decide)) dX4_judge_139 ?_
              refine lv_topi (fun v53 ev53 => ?_)
              obtain rfl : v53 = (upd fq6_1 (tN (oE j1)) ((-1 : Int32) &&& (F_X10_callable K (tN (pA (tN (oE j1)))) (tN (pH (tN (oE j1))))))) (tN (oE j1)) := ev53.trans (by rw [nI_clamp (by omega)])
              refine lv_ior (pc := 140) hx hb dX4_judge_140 ?_
              refine lv_ior (pc := 141) hx hb dX4_judge_141 ?_
              refine lv_istore_n (lv' := [(2, .int ((0 : Int32) ||| (((1 : Int32) <<< ((nI (tN (pA (tN (oE j1))))) &&& 31)) ||| ((upd fq6_1 (tN (oE j1)) ((-1 : Int32) &&& (F_X10_callable K (tN (pA (tN (oE j1)))) (tN (pH (tN (oE j1))))))) (tN (oE j1)))))), (6, .int (-1)), (5, .int (nI (tN (pA (tN (oE j1)))))), (1, .int (pH (tN (oE j1)))), (4, .int (nI (tN (oE j1)))), (3, .int (nI j1)), (0, .ref q)]) (pc := 142) hx hb dX4_judge_142 rfl hl (by decide) rfl (fun ls hl => ?_)
              refine lv_iinc (v := nI (j1 + 1)) (lv' := [(3, .int (nI (j1 + 1))), (2, .int ((0 : Int32) ||| (((1 : Int32) <<< ((nI (tN (pA (tN (oE j1))))) &&& 31)) ||| ((upd fq6_1 (tN (oE j1)) ((-1 : Int32) &&& (F_X10_callable K (tN (pA (tN (oE j1)))) (tN (pH (tN (oE j1))))))) (tN (oE j1)))))), (6, .int (-1)), (5, .int (nI (tN (pA (tN (oE j1)))))), (1, .int (pH (tN (oE j1)))), (4, .int (nI (tN (oE j1)))), (0, .ref q)]) (pc := 143) hx hb dX4_judge_143 hl (k := 5) rfl (nI_add j1 1) (by decide) rfl (fun ls hl => ?_)
              refine lv_goto (tgt := 6) (pc := 146) hx hb dX4_judge_146 rfl ?_
              exact ih1 (j1 + 1) ((0 : Int32) ||| (((1 : Int32) <<< ((nI (tN (pA (tN (oE j1))))) &&& 31)) ||| ((upd fq6_1 (tN (oE j1)) ((-1 : Int32) &&& (F_X10_callable K (tN (pA (tN (oE j1)))) (tN (pH (tN (oE j1))))))) (tN (oE j1))))) (pH (tN (oE j1))) (upd fq5_1 (tN (oE j1)) (F_X4_verdictOf (nI (tN (pA (tN (oE j1))))) ((upd fq6_1 (tN (oE j1)) ((-1 : Int32) &&& (F_X10_callable K (tN (pA (tN (oE j1)))) (tN (pH (tN (oE j1))))))) (tN (oE j1))) (0 : Int32))) (upd fq6_1 (tN (oE j1)) ((-1 : Int32) &&& (F_X10_callable K (tN (pA (tN (oE j1)))) (tN (pH (tN (oE j1))))))) (by omega) (by omega) (by rw [L1_X4_judge, ← hst1]; exact (show L1_X4_judges pH pK pA pB oE K j1 x2_1 x1_1 fq5_1 fq6_1 = ((0 : Int32) ||| (((1 : Int32) <<< ((nI (tN (pA (tN (oE j1))))) &&& 31)) ||| ((upd fq6_1 (tN (oE j1)) ((-1 : Int32) &&& (F_X10_callable K (tN (pA (tN (oE j1)))) (tN (pH (tN (oE j1))))))) (tN (oE j1)))), pH (tN (oE j1)), (upd fq5_1 (tN (oE j1)) (F_X4_verdictOf (nI (tN (pA (tN (oE j1))))) ((upd fq6_1 (tN (oE j1)) ((-1 : Int32) &&& (F_X10_callable K (tN (pA (tN (oE j1)))) (tN (pH (tN (oE j1))))))) (tN (oE j1))) (0 : Int32))), (upd fq6_1 (tN (oE j1)) ((-1 : Int32) &&& (F_X10_callable K (tN (pA (tN (oE j1)))) (tN (pH (tN (oE j1)))))))) from by rw [L1_X4_judges, if_neg c6, if_pos c34, if_pos c50]).symm) _ _ _ hW (lv_sub hl [0, 1, 4, 6] rfl)
  exact loop1 (pc + 1) 0 (0 : Int32) (0 : Int32) pW pR (by omega) (by omega) rfl _ _ _ hW (lv_sub hl [0, 1, 2, 3] rfl)

def L1_X12_reachess (rA : Nat → Int32) (rB : Nat → Int32) (rF : Nat → Int32) (rT : Nat → Int32) (rW : Nat → Int32) (rO : Nat → Int32) (pH : Nat → Int32) (lc : Nat) (v9 : Nat) (k : Nat) (ca : Nat) (j1 : Nat) (x4_1 : Int32) : Int32 := if nI j1 = nI ca then (x4_1) else (if F_X12_mayCall rA rB rF rT rW rO lc v9 ca j1 (pH k) = 0 then (x4_1) else (x4_1 ||| ((1 : Int32) <<< ((nI j1) &&& 31))))
def L1_X12_reaches (rA : Nat → Int32) (rB : Nat → Int32) (rF : Nat → Int32) (rT : Nat → Int32) (rW : Nat → Int32) (rO : Nat → Int32) (pH : Nat → Int32) (lc : Nat) (v9 : Nat) (k : Nat) (ca : Nat) (i0_ : Int32) : Nat → Int32
  | 0 => (i0_)
  | k_ + 1 => L1_X12_reachess rA rB rF rT rW rO pH lc v9 k ca k_ (L1_X12_reaches rA rB rF rT rW rO pH lc v9 k ca i0_ k_)
def F_X12_reaches (rA : Nat → Int32) (rB : Nat → Int32) (rF : Nat → Int32) (rT : Nat → Int32) (rW : Nat → Int32) (rO : Nat → Int32) (pH : Nat → Int32) (pK : Nat → Int32) (pB : Nat → Int32) (lc : Nat) (pe : Nat) (v9 : Nat) (k : Nat) (ca : Nat) : Int32 := if pK k = 3 then ((L1_X12_reaches rA rB rF rT rW rO pH lc v9 k ca (0 : Int32) pe)) else (if F_X12_mayCall rA rB rF rT rW rO lc v9 ca (tN (pB k)) (pH k) = 0 then ((0 : Int32)) else ((1 : Int32) <<< ((pB k) &&& 31)))
set_option maxHeartbeats 4000000 in
set_option maxRecDepth 100000 in
theorem K_X12_reaches (l : Launch) (g : GG) (h0 : Nat) (vs : List Value) (b6 : Nat) (rP : Nat → Int32) (b7 : Nat) (rL : Nat → Int32) (b12 : Nat) (rA : Nat → Int32) (b13 : Nat) (rB : Nat → Int32) (b14 : Nat) (rF : Nat → Int32) (b15 : Nat) (rT : Nat → Int32) (b16 : Nat) (rW : Nat → Int32) (b17 : Nat) (rO : Nat → Int32) (b21 : Nat) (pO : Nat → Int32) (b23 : Nat) (pH : Nat → Int32) (b24 : Nat) (pK : Nat → Int32) (b25 : Nat) (pA : Nat → Int32) (b26 : Nat) (pB : Nat → Int32) (lc : Nat) (pe : Nat) (i : Nat) (v9 : Nat) (k : Nat) (ca : Nat) (hlen : vs.length = 64) (h6_ : vs[6]? = some (.ref b6)) (h7_ : vs[7]? = some (.ref b7)) (h12_ : vs[12]? = some (.ref b12)) (h13_ : vs[13]? = some (.ref b13)) (h14_ : vs[14]? = some (.ref b14)) (h15_ : vs[15]? = some (.ref b15)) (h16_ : vs[16]? = some (.ref b16)) (h17_ : vs[17]? = some (.ref b17)) (h21_ : vs[21]? = some (.ref b21)) (h23_ : vs[23]? = some (.ref b23)) (h24_ : vs[24]? = some (.ref b24)) (h25_ : vs[25]? = some (.ref b25)) (h26_ : vs[26]? = some (.ref b26)) (h19_ : vs[19]? = some (.int (-1))) (h20_ : vs[20]? = some (.int (-1))) (hi : i < 12) (hv9 : v9 < 11) (hpe : pe ≤ 7) (hlc : lc ≤ 12) (hO : pO i = nI v9) (hP : rP v9 = nI pe) (hL : rL v9 = nI lc) (hk : k < 480) (hca : ca < 7) (hA : pA k = nI ca) (hB : ¬ pK k = 3 → pB k = nI (tN (pB k)) ∧ tN (pB k) < 7) : MetI l g yX12_reaches cX12_reaches 6 (some .int) 2 0 0 [.ref h0, .int (nI i), .int (nI k)] [(h0, .inr (12, vs)), (b6, .inl (g.2.1 1, 11, .inl rP)), (b7, .inl (g.2.1 1, 11, .inl rL)), (b12, .inl (g.2.1 1, 132, .inl rA)), (b13, .inl (g.2.1 1, 132, .inl rB)), (b14, .inl (g.2.1 1, 132, .inl rF)), (b15, .inl (g.2.1 1, 132, .inl rT)), (b16, .inl (g.2.1 1, 132, .inl rW)), (b17, .inl (g.2.1 3, 132, .inl rO)), (b21, .inl (g.2.1 1, 12, .inl pO)), (b23, .inl (g.2.1 1, 480, .inl pH)), (b24, .inl (g.2.1 1, 480, .inl pK)), (b25, .inl (g.2.1 1, 480, .inl pA)), (b26, .inl (g.2.1 1, 480, .inl pB))] (fun r u => r = (F_X12_reaches rA rB rF rT rW rO pH pK pB lc pe v9 k ca) ∧ u = [(h0, .inr (12, vs)), (b6, .inl (g.2.1 1, 11, .inl rP)), (b7, .inl (g.2.1 1, 11, .inl rL)), (b12, .inl (g.2.1 1, 132, .inl rA)), (b13, .inl (g.2.1 1, 132, .inl rB)), (b14, .inl (g.2.1 1, 132, .inl rF)), (b15, .inl (g.2.1 1, 132, .inl rT)), (b16, .inl (g.2.1 1, 132, .inl rW)), (b17, .inl (g.2.1 3, 132, .inl rO)), (b21, .inl (g.2.1 1, 12, .inl pO)), (b23, .inl (g.2.1 1, 480, .inl pH)), (b24, .inl (g.2.1 1, 480, .inl pK)), (b25, .inl (g.2.1 1, 480, .inl pA)), (b26, .inl (g.2.1 1, 480, .inl pB))]) := by
  refine MetI.of (own := RX12) rfl (by decide) (Nat.le_of_ble_eq_true rfl) ?_
  intro p e s m below meth c A ls args Q hQ X hr hin hW hl
  have hx := X.1
  have hb := X.2.1
  have hl : lv_has ls 6 [(0, .ref h0), (1, .int (nI i)), (2, .int (nI k))] := hl
  refine lv_aload_n (pc := 0) hx hb dX12_reaches_0 rfl (lv_at hl 0 rfl) ?_
  refine r_get X hW 0 ciX12 21 rfl (by decide) m_1252 rfl h21_ dX12_reaches_1 ?_
  refine lv_iload_n (pc := 4) hx hb dX12_reaches_4 rfl (lv_at hl 1 rfl) ?_
  refine r_iald X hW 9 rfl (vp_in_nI (by omega) (by decide)) dX12_reaches_5 ?_
  refine lv_topi (fun v1 ev1 => ?_)
  obtain rfl : v1 = pO i := ev1.trans (by rw [nI_clamp (by omega)])
  rw [hO]
  refine lv_istore_n (lv' := [(3, .int (nI v9)), (0, .ref h0), (1, .int (nI i)), (2, .int (nI k))]) (pc := 6) hx hb dX12_reaches_6 rfl hl (by decide) rfl (fun ls hl => ?_)
  refine lv_aload_n (pc := 7) hx hb dX12_reaches_7 rfl (lv_at hl 1 rfl) ?_
  refine r_get X hW 0 ciX12 24 rfl (by decide) m_1255 rfl h24_ dX12_reaches_8 ?_
  refine lv_iload_n (pc := 11) hx hb dX12_reaches_11 rfl (lv_at hl 3 rfl) ?_
  refine r_iald X hW 11 rfl (vp_in_nI (by omega) (by decide)) dX12_reaches_12 ?_
  refine lv_topi (fun v2 ev2 => ?_)
  obtain rfl : v2 = pK k := ev2.trans (by rw [nI_clamp (by omega)])
  refine lv_iconst (v := 3) (pc := 13) hx hb dX12_reaches_13 (by decide) ?_
  refine lv_icmp_eq (tgt := 56) (pc := 14) hx hb dX12_reaches_14 rfl (fun c3 => ?_) (fun c3 => ?_)
  · refine lv_iconst (v := 0) (pc := 56) hx hb dX12_reaches_56 (by decide) ?_
    refine lv_istore (lv' := [(4, .int 0), (3, .int (nI v9)), (0, .ref h0), (1, .int (nI i)), (2, .int (nI k))]) (pc := 57) hx hb dX12_reaches_57 hl (by decide) rfl (fun ls hl => ?_)
    refine lv_iconst (v := 0) (pc := 59) hx hb dX12_reaches_59 (by decide) ?_
    refine lv_istore (lv' := [(5, .int 0), (4, .int 0), (3, .int (nI v9)), (0, .ref h0), (1, .int (nI i)), (2, .int (nI k))]) (pc := 60) hx hb dX12_reaches_60 hl (by decide) rfl (fun ls hl => ?_)
    have loop1 : ∀ (fu1 : Nat) (j1 : Nat) (x4_1 : Int32), (pe < fu1 + j1) → (j1 ≤ pe) → (x4_1 = L1_X12_reaches rA rB rF rT rW rO pH lc v9 k ca (0 : Int32) j1) → ∀ (H : Heap) (locs : List Loc) (ls : Array Slot), WD g A s H locs [(h0, .inr (12, vs)), (b6, .inl (g.2.1 1, 11, .inl rP)), (b7, .inl (g.2.1 1, 11, .inl rL)), (b12, .inl (g.2.1 1, 132, .inl rA)), (b13, .inl (g.2.1 1, 132, .inl rB)), (b14, .inl (g.2.1 1, 132, .inl rF)), (b15, .inl (g.2.1 1, 132, .inl rT)), (b16, .inl (g.2.1 1, 132, .inl rW)), (b17, .inl (g.2.1 3, 132, .inl rO)), (b21, .inl (g.2.1 1, 12, .inl pO)), (b23, .inl (g.2.1 1, 480, .inl pH)), (b24, .inl (g.2.1 1, 480, .inl pK)), (b25, .inl (g.2.1 1, 480, .inl pA)), (b26, .inl (g.2.1 1, 480, .inl pB))] → lv_has ls 6 [(5, .int (nI j1)), (4, .int x4_1), (3, .int (nI v9)), (0, .ref h0), (1, .int (nI i)), (2, .int (nI k))] → W p l e (RM 2 0 0) s m args below meth c H locs 0 0 Q (F0 m 62 ls []) := by
      intro fu1
      induction fu1 with
      | zero =>
        intro j1 x4_1 hm1 hj1 hst1
        exact absurd hm1 (by omega)
      | succ fu1 ih1 =>
        intro j1 x4_1 hm1 hj1 hst1 H locs ls hW hl
        refine lv_iload (pc := 62) hx hb dX12_reaches_62 (lv_at hl 0 rfl) ?_
        refine lv_aload_n (pc := 64) hx hb dX12_reaches_64 rfl (lv_at hl 3 rfl) ?_
        refine r_get X hW 0 ciX12 6 rfl (by decide) m_1237 rfl h6_ dX12_reaches_65 ?_
        refine lv_iload_n (pc := 68) hx hb dX12_reaches_68 rfl (lv_at hl 2 rfl) ?_
        refine r_iald X hW 1 rfl (vp_in_nI (by omega) (by decide)) dX12_reaches_69 ?_
        refine lv_topi (fun v5 ev5 => ?_)
        obtain rfl : v5 = rP v9 := ev5.trans (by rw [nI_clamp (by omega)])
        rw [hP]
        refine lv_icmp_ge (tgt := 121) (pc := 70) hx hb dX12_reaches_70 rfl (fun c6 => ?_) (fun c6 => ?_)
        · have h7 : pe ≤ j1 := (nI_leI (a := pe) (b := j1) (by omega) (by omega)).mp c6
          have hN1 : j1 = pe := by omega
          rw [hN1] at hst1
          subst hst1
          have hW : WD g A s _ _ [(h0, .inr (12, vs)), (b6, .inl (g.2.1 1, 11, .inl rP)), (b7, .inl (g.2.1 1, 11, .inl rL)), (b12, .inl (g.2.1 1, 132, .inl rA)), (b13, .inl (g.2.1 1, 132, .inl rB)), (b14, .inl (g.2.1 1, 132, .inl rF)), (b15, .inl (g.2.1 1, 132, .inl rT)), (b16, .inl (g.2.1 1, 132, .inl rW)), (b17, .inl (g.2.1 3, 132, .inl rO)), (b21, .inl (g.2.1 1, 12, .inl pO)), (b23, .inl (g.2.1 1, 480, .inl pH)), (b24, .inl (g.2.1 1, 480, .inl pK)), (b25, .inl (g.2.1 1, 480, .inl pA)), (b26, .inl (g.2.1 1, 480, .inl pB))] := hW
          refine lv_iload (pc := 121) hx hb dX12_reaches_121 (lv_at hl 1 rfl) ?_
          have hF : F_X12_reaches rA rB rF rT rW rO pH pK pB lc pe v9 k ca = (L1_X12_reaches rA rB rF rT rW rO pH lc v9 k ca (0 : Int32) pe) := show F_X12_reaches rA rB rF rT rW rO pH pK pB lc pe v9 k ca = (L1_X12_reaches rA rB rF rT rW rO pH lc v9 k ca (0 : Int32) pe) from by rw [F_X12_reaches, if_pos c3]
          exact e_i (u := [(h0, .inr (12, vs)), (b6, .inl (g.2.1 1, 11, .inl rP)), (b7, .inl (g.2.1 1, 11, .inl rL)), (b12, .inl (g.2.1 1, 132, .inl rA)), (b13, .inl (g.2.1 1, 132, .inl rB)), (b14, .inl (g.2.1 1, 132, .inl rF)), (b15, .inl (g.2.1 1, 132, .inl rT)), (b16, .inl (g.2.1 1, 132, .inl rW)), (b17, .inl (g.2.1 3, 132, .inl rO)), (b21, .inl (g.2.1 1, 12, .inl pO)), (b23, .inl (g.2.1 1, 480, .inl pH)), (b24, .inl (g.2.1 1, 480, .inl pK)), (b25, .inl (g.2.1 1, 480, .inl pA)), (b26, .inl (g.2.1 1, 480, .inl pB))]) X hQ hr (hW) [0, 1, 2, 3, 4, 5, 6, 7, 8, 9, 10, 11, 12, 13] rfl rfl (⟨hF.symm, rfl⟩) ⟨Nat.le_of_ble_eq_true rfl, Nat.le_of_ble_eq_true rfl⟩ dX12_reaches_123
        · have h8 : ¬ (pe ≤ j1) := fun q => c6 ((nI_leI (a := pe) (b := j1) (by omega) (by omega)).mpr q)
          refine lv_iload (pc := 73) hx hb dX12_reaches_73 (lv_at hl 0 rfl) ?_
          refine lv_aload_n (pc := 75) hx hb dX12_reaches_75 rfl (lv_at hl 3 rfl) ?_
          refine r_get X hW 0 ciX12 25 rfl (by decide) m_1256 rfl h25_ dX12_reaches_76 ?_
          refine lv_iload_n (pc := 79) hx hb dX12_reaches_79 rfl (lv_at hl 5 rfl) ?_
          refine r_iald X hW 12 rfl (vp_in_nI (by omega) (by decide)) dX12_reaches_80 ?_
          refine lv_topi (fun v9 ev9 => ?_)
          obtain rfl : v9 = pA k := ev9.trans (by rw [nI_clamp (by omega)])
          rw [hA]
          refine lv_icmp_eq (tgt := 115) (pc := 81) hx hb dX12_reaches_81 rfl (fun c10 => ?_) (fun c10 => ?_)
          · have h11 : j1 = ca := (nI_eq (a := j1) (b := ca) (by omega) (by omega)).mp c10
            refine lv_iinc (v := nI (j1 + 1)) (lv' := [(5, .int (nI (j1 + 1))), (4, .int x4_1), (3, .int (nI v9)), (0, .ref h0), (1, .int (nI i)), (2, .int (nI k))]) (pc := 115) hx hb dX12_reaches_115 hl (k := 0) rfl (nI_add j1 1) (by decide) rfl (fun ls hl => ?_)
            refine lv_goto (tgt := 62) (pc := 118) hx hb dX12_reaches_118 rfl ?_
            exact ih1 (j1 + 1) x4_1 (by omega) (by omega) (by rw [L1_X12_reaches, ← hst1]; exact (show L1_X12_reachess rA rB rF rT rW rO pH lc v9 k ca j1 x4_1 = x4_1 from by rw [L1_X12_reachess, if_pos c10]).symm) _ _ _ hW (lv_sub hl [0, 1, 2, 3, 4, 5] rfl)
          · have h12 : ¬ (j1 = ca) := fun q => c10 ((nI_eq (a := j1) (b := ca) (by omega) (by omega)).mpr q)
            refine lv_aload_n (pc := 84) hx hb dX12_reaches_84 rfl (lv_at hl 3 rfl) ?_
            refine lv_iload_n (pc := 85) hx hb dX12_reaches_85 rfl (lv_at hl 2 rfl) ?_
            refine lv_aload_n (pc := 86) hx hb dX12_reaches_86 rfl (lv_at hl 3 rfl) ?_
            refine r_get X hW 0 ciX12 25 rfl (by decide) m_1256 rfl h25_ dX12_reaches_87 ?_
            refine lv_iload_n (pc := 90) hx hb dX12_reaches_90 rfl (lv_at hl 5 rfl) ?_
            refine r_iald X hW 12 rfl (vp_in_nI (by omega) (by decide)) dX12_reaches_91 ?_
            refine lv_topi (fun v13 ev13 => ?_)
            obtain rfl : v13 = pA k := ev13.trans (by rw [nI_clamp (by omega)])
            rw [hA]
            refine lv_iload (pc := 92) hx hb dX12_reaches_92 (lv_at hl 0 rfl) ?_
            refine lv_aload_n (pc := 94) hx hb dX12_reaches_94 rfl (lv_at hl 3 rfl) ?_
            refine r_get X hW 0 ciX12 23 rfl (by decide) m_1254 rfl h23_ dX12_reaches_95 ?_
            refine lv_iload_n (pc := 98) hx hb dX12_reaches_98 rfl (lv_at hl 5 rfl) ?_
            refine r_iald X hW 10 rfl (vp_in_nI (by omega) (by decide)) dX12_reaches_99 ?_
            refine lv_topi (fun v14 ev14 => ?_)
            obtain rfl : v14 = pH k := ev14.trans (by rw [nI_clamp (by omega)])
            refine c_Vi (pc := 100) (As := [.int (nI v9), .int (nI ca), .int (nI j1), .int (pH k)]) (rest := []) (wr := [(b6, .inl (g.2.1 1, 11, .inl rP)), (b21, .inl (g.2.1 1, 12, .inl pO)), (b23, .inl (g.2.1 1, 480, .inl pH)), (b24, .inl (g.2.1 1, 480, .inl pK)), (b25, .inl (g.2.1 1, 480, .inl pA)), (b26, .inl (g.2.1 1, 480, .inl pB))]) X hW 0 ciX12 rfl (K_X12_mayCall l g h0 vs b7 rL b12 rA b13 rB b14 rF b15 rT b16 rW b17 rO lc v9 ca j1 (pH k) hlen h7_ h12_ h13_ h14_ h15_ h16_ h17_ h19_ h20_ (by omega) (by omega) (by omega) hlc hL) vX12_240 [0, 2, 3, 4, 5, 6, 7, 8] [1, 9, 10, 11, 12, 13] rfl rfl rfl rfl rfl rfl hl.1 rfl (Nat.le_of_ble_eq_true rfl) ⟨Nat.le_of_ble_eq_true rfl, Nat.le_of_ble_eq_true rfl⟩ ⟨Nat.le_of_ble_eq_true rfl, Nat.le_of_ble_eq_true rfl⟩ dX12_reaches_100 (fun r15 u9 H locs hq hW => ?_)
            obtain ⟨rfl, rfl⟩ := hq
            have hW : WD g A s _ _ [(b6, .inl (g.2.1 1, 11, .inl rP)), (b21, .inl (g.2.1 1, 12, .inl pO)), (b23, .inl (g.2.1 1, 480, .inl pH)), (b24, .inl (g.2.1 1, 480, .inl pK)), (b25, .inl (g.2.1 1, 480, .inl pA)), (b26, .inl (g.2.1 1, 480, .inl pB)), (h0, .inr (12, vs)), (b7, .inl (g.2.1 1, 11, .inl rL)), (b12, .inl (g.2.1 1, 132, .inl rA)), (b13, .inl (g.2.1 1, 132, .inl rB)), (b14, .inl (g.2.1 1, 132, .inl rF)), (b15, .inl (g.2.1 1, 132, .inl rT)), (b16, .inl (g.2.1 1, 132, .inl rW)), (b17, .inl (g.2.1 3, 132, .inl rO))] := hW
            refine lv_if_eq (tgt := 115) (pc := 103) hx hb dX12_reaches_103 rfl (fun c16 => ?_) (fun c16 => ?_)
            · refine lv_iinc (v := nI (j1 + 1)) (lv' := [(5, .int (nI (j1 + 1))), (4, .int x4_1), (3, .int (nI v9)), (0, .ref h0), (1, .int (nI i)), (2, .int (nI k))]) (pc := 115) hx hb dX12_reaches_115 hl (k := 0) rfl (nI_add j1 1) (by decide) rfl (fun ls hl => ?_)
              refine lv_goto (tgt := 62) (pc := 118) hx hb dX12_reaches_118 rfl ?_
              have hW : WD g A s _ _ [(h0, .inr (12, vs)), (b6, .inl (g.2.1 1, 11, .inl rP)), (b7, .inl (g.2.1 1, 11, .inl rL)), (b12, .inl (g.2.1 1, 132, .inl rA)), (b13, .inl (g.2.1 1, 132, .inl rB)), (b14, .inl (g.2.1 1, 132, .inl rF)), (b15, .inl (g.2.1 1, 132, .inl rT)), (b16, .inl (g.2.1 1, 132, .inl rW)), (b17, .inl (g.2.1 3, 132, .inl rO)), (b21, .inl (g.2.1 1, 12, .inl pO)), (b23, .inl (g.2.1 1, 480, .inl pH)), (b24, .inl (g.2.1 1, 480, .inl pK)), (b25, .inl (g.2.1 1, 480, .inl pA)), (b26, .inl (g.2.1 1, 480, .inl pB))] := hW.pick [6, 0, 7, 8, 9, 10, 11, 12, 13, 1, 2, 3, 4, 5] rfl rfl
              exact ih1 (j1 + 1) x4_1 (by omega) (by omega) (by rw [L1_X12_reaches, ← hst1]; exact (show L1_X12_reachess rA rB rF rT rW rO pH lc v9 k ca j1 x4_1 = x4_1 from by rw [L1_X12_reachess, if_neg c10, if_pos c16]).symm) _ _ _ hW (lv_sub hl [0, 1, 2, 3, 4, 5] rfl)
            · refine lv_iload (pc := 106) hx hb dX12_reaches_106 (lv_at hl 1 rfl) ?_
              refine lv_iconst (v := 1) (pc := 108) hx hb dX12_reaches_108 (by decide) ?_
              refine lv_iload (pc := 109) hx hb dX12_reaches_109 (lv_at hl 0 rfl) ?_
              refine lv_ishl (pc := 111) hx hb dX12_reaches_111 ?_
              refine lv_ior (pc := 112) hx hb dX12_reaches_112 ?_
              refine lv_istore (lv' := [(4, .int (x4_1 ||| ((1 : Int32) <<< ((nI j1) &&& 31)))), (5, .int (nI j1)), (3, .int (nI v9)), (0, .ref h0), (1, .int (nI i)), (2, .int (nI k))]) (pc := 113) hx hb dX12_reaches_113 hl (by decide) rfl (fun ls hl => ?_)
              refine lv_iinc (v := nI (j1 + 1)) (lv' := [(5, .int (nI (j1 + 1))), (4, .int (x4_1 ||| ((1 : Int32) <<< ((nI j1) &&& 31)))), (3, .int (nI v9)), (0, .ref h0), (1, .int (nI i)), (2, .int (nI k))]) (pc := 115) hx hb dX12_reaches_115 hl (k := 1) rfl (nI_add j1 1) (by decide) rfl (fun ls hl => ?_)
              refine lv_goto (tgt := 62) (pc := 118) hx hb dX12_reaches_118 rfl ?_
              have hW : WD g A s _ _ [(h0, .inr (12, vs)), (b6, .inl (g.2.1 1, 11, .inl rP)), (b7, .inl (g.2.1 1, 11, .inl rL)), (b12, .inl (g.2.1 1, 132, .inl rA)), (b13, .inl (g.2.1 1, 132, .inl rB)), (b14, .inl (g.2.1 1, 132, .inl rF)), (b15, .inl (g.2.1 1, 132, .inl rT)), (b16, .inl (g.2.1 1, 132, .inl rW)), (b17, .inl (g.2.1 3, 132, .inl rO)), (b21, .inl (g.2.1 1, 12, .inl pO)), (b23, .inl (g.2.1 1, 480, .inl pH)), (b24, .inl (g.2.1 1, 480, .inl pK)), (b25, .inl (g.2.1 1, 480, .inl pA)), (b26, .inl (g.2.1 1, 480, .inl pB))] := hW.pick [6, 0, 7, 8, 9, 10, 11, 12, 13, 1, 2, 3, 4, 5] rfl rfl
              exact ih1 (j1 + 1) (x4_1 ||| ((1 : Int32) <<< ((nI j1) &&& 31))) (by omega) (by omega) (by rw [L1_X12_reaches, ← hst1]; exact (show L1_X12_reachess rA rB rF rT rW rO pH lc v9 k ca j1 x4_1 = x4_1 ||| ((1 : Int32) <<< ((nI j1) &&& 31)) from by rw [L1_X12_reachess, if_neg c10, if_neg c16]).symm) _ _ _ hW (lv_sub hl [0, 1, 2, 3, 4, 5] rfl)
    exact loop1 (pe + 1) 0 (0 : Int32) (by omega) (by omega) rfl _ _ _ hW (lv_sub hl [0, 1, 2, 3, 4, 5] rfl)
  · have q14 := c3
    refine lv_aload_n (pc := 17) hx hb dX12_reaches_17 rfl (lv_at hl 1 rfl) ?_
    refine lv_iload_n (pc := 18) hx hb dX12_reaches_18 rfl (lv_at hl 0 rfl) ?_
    refine lv_aload_n (pc := 19) hx hb dX12_reaches_19 rfl (lv_at hl 1 rfl) ?_
    refine r_get X hW 0 ciX12 25 rfl (by decide) m_1256 rfl h25_ dX12_reaches_20 ?_
    refine lv_iload_n (pc := 23) hx hb dX12_reaches_23 rfl (lv_at hl 3 rfl) ?_
    refine r_iald X hW 12 rfl (vp_in_nI (by omega) (by decide)) dX12_reaches_24 ?_
    refine lv_topi (fun v20 ev20 => ?_)
    obtain rfl : v20 = pA k := ev20.trans (by rw [nI_clamp (by omega)])
    rw [hA]
    refine lv_aload_n (pc := 25) hx hb dX12_reaches_25 rfl (lv_at hl 1 rfl) ?_
    refine r_get X hW 0 ciX12 26 rfl (by decide) m_1257 rfl h26_ dX12_reaches_26 ?_
    refine lv_iload_n (pc := 29) hx hb dX12_reaches_29 rfl (lv_at hl 3 rfl) ?_
    refine r_iald X hW 13 rfl (vp_in_nI (by omega) (by decide)) dX12_reaches_30 ?_
    refine lv_topi (fun v21 ev21 => ?_)
    obtain rfl : v21 = pB k := ev21.trans (by rw [nI_clamp (by omega)])
    have hB1 := hB q14
    have hB2 := hB1.2
    rw [hB1.1]
    refine lv_aload_n (pc := 31) hx hb dX12_reaches_31 rfl (lv_at hl 1 rfl) ?_
    refine r_get X hW 0 ciX12 23 rfl (by decide) m_1254 rfl h23_ dX12_reaches_32 ?_
    refine lv_iload_n (pc := 35) hx hb dX12_reaches_35 rfl (lv_at hl 3 rfl) ?_
    refine r_iald X hW 10 rfl (vp_in_nI (by omega) (by decide)) dX12_reaches_36 ?_
    refine lv_topi (fun v22 ev22 => ?_)
    obtain rfl : v22 = pH k := ev22.trans (by rw [nI_clamp (by omega)])
    refine c_Vi (pc := 37) (As := [.int (nI v9), .int (nI ca), .int (nI (tN (pB k))), .int (pH k)]) (rest := []) (wr := [(b6, .inl (g.2.1 1, 11, .inl rP)), (b21, .inl (g.2.1 1, 12, .inl pO)), (b23, .inl (g.2.1 1, 480, .inl pH)), (b24, .inl (g.2.1 1, 480, .inl pK)), (b25, .inl (g.2.1 1, 480, .inl pA)), (b26, .inl (g.2.1 1, 480, .inl pB))]) X hW 0 ciX12 rfl (K_X12_mayCall l g h0 vs b7 rL b12 rA b13 rB b14 rF b15 rT b16 rW b17 rO lc v9 ca (tN (pB k)) (pH k) hlen h7_ h12_ h13_ h14_ h15_ h16_ h17_ h19_ h20_ (by omega) (by omega) (by omega) hlc hL) vX12_240 [0, 2, 3, 4, 5, 6, 7, 8] [1, 9, 10, 11, 12, 13] rfl rfl rfl rfl rfl rfl hl.1 rfl (Nat.le_of_ble_eq_true rfl) ⟨Nat.le_of_ble_eq_true rfl, Nat.le_of_ble_eq_true rfl⟩ ⟨Nat.le_of_ble_eq_true rfl, Nat.le_of_ble_eq_true rfl⟩ dX12_reaches_37 (fun r23 u9 H locs hq hW => ?_)
    obtain ⟨rfl, rfl⟩ := hq
    have hW : WD g A s _ _ [(b6, .inl (g.2.1 1, 11, .inl rP)), (b21, .inl (g.2.1 1, 12, .inl pO)), (b23, .inl (g.2.1 1, 480, .inl pH)), (b24, .inl (g.2.1 1, 480, .inl pK)), (b25, .inl (g.2.1 1, 480, .inl pA)), (b26, .inl (g.2.1 1, 480, .inl pB)), (h0, .inr (12, vs)), (b7, .inl (g.2.1 1, 11, .inl rL)), (b12, .inl (g.2.1 1, 132, .inl rA)), (b13, .inl (g.2.1 1, 132, .inl rB)), (b14, .inl (g.2.1 1, 132, .inl rF)), (b15, .inl (g.2.1 1, 132, .inl rT)), (b16, .inl (g.2.1 1, 132, .inl rW)), (b17, .inl (g.2.1 3, 132, .inl rO))] := hW
    refine lv_if_eq (tgt := 54) (pc := 40) hx hb dX12_reaches_40 rfl (fun c24 => ?_) (fun c24 => ?_)
    · refine lv_iconst (v := 0) (pc := 54) hx hb dX12_reaches_54 (by decide) ?_
      have hF : F_X12_reaches rA rB rF rT rW rO pH pK pB lc pe v9 k ca = (0 : Int32) := show F_X12_reaches rA rB rF rT rW rO pH pK pB lc pe v9 k ca = (0 : Int32) from by rw [F_X12_reaches, if_neg c3, if_pos c24]
      exact e_i (u := [(h0, .inr (12, vs)), (b6, .inl (g.2.1 1, 11, .inl rP)), (b7, .inl (g.2.1 1, 11, .inl rL)), (b12, .inl (g.2.1 1, 132, .inl rA)), (b13, .inl (g.2.1 1, 132, .inl rB)), (b14, .inl (g.2.1 1, 132, .inl rF)), (b15, .inl (g.2.1 1, 132, .inl rT)), (b16, .inl (g.2.1 1, 132, .inl rW)), (b17, .inl (g.2.1 3, 132, .inl rO)), (b21, .inl (g.2.1 1, 12, .inl pO)), (b23, .inl (g.2.1 1, 480, .inl pH)), (b24, .inl (g.2.1 1, 480, .inl pK)), (b25, .inl (g.2.1 1, 480, .inl pA)), (b26, .inl (g.2.1 1, 480, .inl pB))]) X hQ hr (hW) [6, 0, 7, 8, 9, 10, 11, 12, 13, 1, 2, 3, 4, 5] rfl rfl (⟨hF.symm, rfl⟩) ⟨Nat.le_of_ble_eq_true rfl, Nat.le_of_ble_eq_true rfl⟩ dX12_reaches_55
    · refine lv_iconst (v := 1) (pc := 43) hx hb dX12_reaches_43 (by decide) ?_
      refine lv_aload_n (pc := 44) hx hb dX12_reaches_44 rfl (lv_at hl 1 rfl) ?_
      refine r_get X hW 6 ciX12 26 rfl (by decide) m_1257 rfl h26_ dX12_reaches_45 ?_
      refine lv_iload_n (pc := 48) hx hb dX12_reaches_48 rfl (lv_at hl 3 rfl) ?_
      refine r_iald X hW 5 rfl (vp_in_nI (by omega) (by decide)) dX12_reaches_49 ?_
      refine lv_topi (fun v27 ev27 => ?_)
      obtain rfl : v27 = pB k := ev27.trans (by rw [nI_clamp (by omega)])
      refine lv_ishl (pc := 50) hx hb dX12_reaches_50 ?_
      refine lv_goto (tgt := 55) (pc := 51) hx hb dX12_reaches_51 rfl ?_
      have hF : F_X12_reaches rA rB rF rT rW rO pH pK pB lc pe v9 k ca = (1 : Int32) <<< ((pB k) &&& 31) := show F_X12_reaches rA rB rF rT rW rO pH pK pB lc pe v9 k ca = (1 : Int32) <<< ((pB k) &&& 31) from by rw [F_X12_reaches, if_neg c3, if_neg c24]
      exact e_i (u := [(h0, .inr (12, vs)), (b6, .inl (g.2.1 1, 11, .inl rP)), (b7, .inl (g.2.1 1, 11, .inl rL)), (b12, .inl (g.2.1 1, 132, .inl rA)), (b13, .inl (g.2.1 1, 132, .inl rB)), (b14, .inl (g.2.1 1, 132, .inl rF)), (b15, .inl (g.2.1 1, 132, .inl rT)), (b16, .inl (g.2.1 1, 132, .inl rW)), (b17, .inl (g.2.1 3, 132, .inl rO)), (b21, .inl (g.2.1 1, 12, .inl pO)), (b23, .inl (g.2.1 1, 480, .inl pH)), (b24, .inl (g.2.1 1, 480, .inl pK)), (b25, .inl (g.2.1 1, 480, .inl pA)), (b26, .inl (g.2.1 1, 480, .inl pB))]) X hQ hr (hW) [6, 0, 7, 8, 9, 10, 11, 12, 13, 1, 2, 3, 4, 5] rfl rfl (⟨hF.symm, rfl⟩) ⟨Nat.le_of_ble_eq_true rfl, Nat.le_of_ble_eq_true rfl⟩ dX12_reaches_55

def L2_X12_judges (rA : Nat → Int32) (rB : Nat → Int32) (rF : Nat → Int32) (rT : Nat → Int32) (rW : Nat → Int32) (rO : Nat → Int32) (pH : Nat → Int32) (pK : Nat → Int32) (pA : Nat → Int32) (pB : Nat → Int32) (lc : Nat) (pe : Nat) (i : Nat) (v9 : Nat) (j1 : Nat) (j2 : Nat) (x3_2 : Int32) (fb28_2 : Nat → Int32) (fb29_2 : Nat → Int32) : Int32 × (Nat → Int32) × (Nat → Int32) := if pH (40 * i + j2) = nI (j1 + 1) then (if (upd fb29_2 j2 (F_X12_reaches rA rB rF rT rW rO pH pK pB lc pe v9 (40 * i + j2) (tN (pA (40 * i + j2))))) j2 = 0 then (if (upd fb28_2 j2 (1 : Int32)) j2 = 0 then ((x3_2 ||| (((upd fb29_2 j2 (F_X12_reaches rA rB rF rT rW rO pH pK pB lc pe v9 (40 * i + j2) (tN (pA (40 * i + j2))))) j2) ||| ((1 : Int32) <<< ((pA (40 * i + j2)) &&& 31))), (upd fb28_2 j2 (1 : Int32)), (upd fb29_2 j2 (F_X12_reaches rA rB rF rT rW rO pH pK pB lc pe v9 (40 * i + j2) (tN (pA (40 * i + j2))))))) else ((x3_2, (upd fb28_2 j2 (1 : Int32)), (upd fb29_2 j2 (F_X12_reaches rA rB rF rT rW rO pH pK pB lc pe v9 (40 * i + j2) (tN (pA (40 * i + j2)))))))) else (if (x3_2 >>> ((pA (40 * i + j2)) &&& 31)) &&& (1 : Int32) = 1 then (if (upd fb28_2 j2 (2 : Int32)) j2 = 0 then ((x3_2 ||| (((upd fb29_2 j2 (F_X12_reaches rA rB rF rT rW rO pH pK pB lc pe v9 (40 * i + j2) (tN (pA (40 * i + j2))))) j2) ||| ((1 : Int32) <<< ((pA (40 * i + j2)) &&& 31))), (upd fb28_2 j2 (2 : Int32)), (upd fb29_2 j2 (F_X12_reaches rA rB rF rT rW rO pH pK pB lc pe v9 (40 * i + j2) (tN (pA (40 * i + j2))))))) else ((x3_2, (upd fb28_2 j2 (2 : Int32)), (upd fb29_2 j2 (F_X12_reaches rA rB rF rT rW rO pH pK pB lc pe v9 (40 * i + j2) (tN (pA (40 * i + j2)))))))) else (if x3_2 &&& ((upd fb29_2 j2 (F_X12_reaches rA rB rF rT rW rO pH pK pB lc pe v9 (40 * i + j2) (tN (pA (40 * i + j2))))) j2) = 0 then (if (upd fb28_2 j2 (0 : Int32)) j2 = 0 then ((x3_2 ||| (((upd fb29_2 j2 (F_X12_reaches rA rB rF rT rW rO pH pK pB lc pe v9 (40 * i + j2) (tN (pA (40 * i + j2))))) j2) ||| ((1 : Int32) <<< ((pA (40 * i + j2)) &&& 31))), (upd fb28_2 j2 (0 : Int32)), (upd fb29_2 j2 (F_X12_reaches rA rB rF rT rW rO pH pK pB lc pe v9 (40 * i + j2) (tN (pA (40 * i + j2))))))) else ((x3_2, (upd fb28_2 j2 (0 : Int32)), (upd fb29_2 j2 (F_X12_reaches rA rB rF rT rW rO pH pK pB lc pe v9 (40 * i + j2) (tN (pA (40 * i + j2)))))))) else (if (upd fb28_2 j2 (3 : Int32)) j2 = 0 then ((x3_2 ||| (((upd fb29_2 j2 (F_X12_reaches rA rB rF rT rW rO pH pK pB lc pe v9 (40 * i + j2) (tN (pA (40 * i + j2))))) j2) ||| ((1 : Int32) <<< ((pA (40 * i + j2)) &&& 31))), (upd fb28_2 j2 (3 : Int32)), (upd fb29_2 j2 (F_X12_reaches rA rB rF rT rW rO pH pK pB lc pe v9 (40 * i + j2) (tN (pA (40 * i + j2))))))) else ((x3_2, (upd fb28_2 j2 (3 : Int32)), (upd fb29_2 j2 (F_X12_reaches rA rB rF rT rW rO pH pK pB lc pe v9 (40 * i + j2) (tN (pA (40 * i + j2))))))))))) else ((x3_2, fb28_2, fb29_2))
def L2_X12_judge (rA : Nat → Int32) (rB : Nat → Int32) (rF : Nat → Int32) (rT : Nat → Int32) (rW : Nat → Int32) (rO : Nat → Int32) (pH : Nat → Int32) (pK : Nat → Int32) (pA : Nat → Int32) (pB : Nat → Int32) (lc : Nat) (pe : Nat) (i : Nat) (v9 : Nat) (j1 : Nat) (i0_ : Int32) (i1_ : Nat → Int32) (i2_ : Nat → Int32) : Nat → Int32 × (Nat → Int32) × (Nat → Int32)
  | 0 => (i0_, i1_, i2_)
  | k_ + 1 => L2_X12_judges rA rB rF rT rW rO pH pK pA pB lc pe i v9 j1 k_ ((L2_X12_judge rA rB rF rT rW rO pH pK pA pB lc pe i v9 j1 i0_ i1_ i2_ k_).1) ((L2_X12_judge rA rB rF rT rW rO pH pK pA pB lc pe i v9 j1 i0_ i1_ i2_ k_).2.1) ((L2_X12_judge rA rB rF rT rW rO pH pK pA pB lc pe i v9 j1 i0_ i1_ i2_ k_).2.2)
def L1_X12_judges (rA : Nat → Int32) (rB : Nat → Int32) (rF : Nat → Int32) (rT : Nat → Int32) (rW : Nat → Int32) (rO : Nat → Int32) (pH : Nat → Int32) (pK : Nat → Int32) (pA : Nat → Int32) (pB : Nat → Int32) (lc : Nat) (pe : Nat) (i : Nat) (v9 : Nat) (cn : Nat) (j1 : Nat) (fb28_1 : Nat → Int32) (fb29_1 : Nat → Int32) : (Nat → Int32) × (Nat → Int32) := (((L2_X12_judge rA rB rF rT rW rO pH pK pA pB lc pe i v9 j1 (0 : Int32) fb28_1 fb29_1 cn).2.1), ((L2_X12_judge rA rB rF rT rW rO pH pK pA pB lc pe i v9 j1 (0 : Int32) fb28_1 fb29_1 cn).2.2))
def L1_X12_judge (rA : Nat → Int32) (rB : Nat → Int32) (rF : Nat → Int32) (rT : Nat → Int32) (rW : Nat → Int32) (rO : Nat → Int32) (pH : Nat → Int32) (pK : Nat → Int32) (pA : Nat → Int32) (pB : Nat → Int32) (lc : Nat) (pe : Nat) (i : Nat) (v9 : Nat) (cn : Nat) (i0_ : Nat → Int32) (i1_ : Nat → Int32) : Nat → (Nat → Int32) × (Nat → Int32)
  | 0 => (i0_, i1_)
  | k_ + 1 => L1_X12_judges rA rB rF rT rW rO pH pK pA pB lc pe i v9 cn k_ ((L1_X12_judge rA rB rF rT rW rO pH pK pA pB lc pe i v9 cn i0_ i1_ k_).1) ((L1_X12_judge rA rB rF rT rW rO pH pK pA pB lc pe i v9 cn i0_ i1_ k_).2)
def F_X12_judge (rA : Nat → Int32) (rB : Nat → Int32) (rF : Nat → Int32) (rT : Nat → Int32) (rW : Nat → Int32) (rO : Nat → Int32) (pH : Nat → Int32) (pK : Nat → Int32) (pA : Nat → Int32) (pB : Nat → Int32) (pW : Nat → Int32) (pR : Nat → Int32) (lc : Nat) (pe : Nat) (i : Nat) (v9 : Nat) (cn : Nat) : (Nat → Int32) × (Nat → Int32) := (((L1_X12_judge rA rB rF rT rW rO pH pK pA pB lc pe i v9 cn pW pR 24).1), ((L1_X12_judge rA rB rF rT rW rO pH pK pA pB lc pe i v9 cn pW pR 24).2))
set_option maxHeartbeats 4000000 in
set_option maxRecDepth 100000 in
theorem K_X12_judge (l : Launch) (g : GG) (h0 : Nat) (vs : List Value) (b6 : Nat) (rP : Nat → Int32) (b7 : Nat) (rL : Nat → Int32) (b12 : Nat) (rA : Nat → Int32) (b13 : Nat) (rB : Nat → Int32) (b14 : Nat) (rF : Nat → Int32) (b15 : Nat) (rT : Nat → Int32) (b16 : Nat) (rW : Nat → Int32) (b17 : Nat) (rO : Nat → Int32) (b21 : Nat) (pO : Nat → Int32) (b22 : Nat) (pC : Nat → Int32) (b23 : Nat) (pH : Nat → Int32) (b24 : Nat) (pK : Nat → Int32) (b25 : Nat) (pA : Nat → Int32) (b26 : Nat) (pB : Nat → Int32) (b28 : Nat) (pW : Nat → Int32) (b29 : Nat) (pR : Nat → Int32) (lc : Nat) (pe : Nat) (i : Nat) (v9 : Nat) (cn : Nat) (hlen : vs.length = 64) (h6_ : vs[6]? = some (.ref b6)) (h7_ : vs[7]? = some (.ref b7)) (h12_ : vs[12]? = some (.ref b12)) (h13_ : vs[13]? = some (.ref b13)) (h14_ : vs[14]? = some (.ref b14)) (h15_ : vs[15]? = some (.ref b15)) (h16_ : vs[16]? = some (.ref b16)) (h17_ : vs[17]? = some (.ref b17)) (h21_ : vs[21]? = some (.ref b21)) (h22_ : vs[22]? = some (.ref b22)) (h23_ : vs[23]? = some (.ref b23)) (h24_ : vs[24]? = some (.ref b24)) (h25_ : vs[25]? = some (.ref b25)) (h26_ : vs[26]? = some (.ref b26)) (h28_ : vs[28]? = some (.ref b28)) (h29_ : vs[29]? = some (.ref b29)) (h19_ : vs[19]? = some (.int (-1))) (h20_ : vs[20]? = some (.int (-1))) (hi : i < 12) (hv9 : v9 < 11) (hpe : pe ≤ 7) (hlc : lc ≤ 12) (hO : pO i = nI v9) (hP : rP v9 = nI pe) (hL : rL v9 = nI lc) (hOn : ∀ k : Nat, k < cn → pA (40 * i + k) = nI (tN (pA (40 * i + k))) ∧ tN (pA (40 * i + k)) < 7) (hOt : ∀ k : Nat, k < cn → ¬ pK (40 * i + k) = 3 → pB (40 * i + k) = nI (tN (pB (40 * i + k))) ∧ tN (pB (40 * i + k)) < 7) (hcn : cn ≤ 40) (hC : pC i = nI cn) : MetV l g yX12_judge cX12_judge 6 none 3 0 0 [.ref h0, .int (nI i)] [(h0, .inr (12, vs)), (b6, .inl (g.2.1 1, 11, .inl rP)), (b7, .inl (g.2.1 1, 11, .inl rL)), (b12, .inl (g.2.1 1, 132, .inl rA)), (b13, .inl (g.2.1 1, 132, .inl rB)), (b14, .inl (g.2.1 1, 132, .inl rF)), (b15, .inl (g.2.1 1, 132, .inl rT)), (b16, .inl (g.2.1 1, 132, .inl rW)), (b17, .inl (g.2.1 3, 132, .inl rO)), (b21, .inl (g.2.1 1, 12, .inl pO)), (b22, .inl (g.2.1 1, 12, .inl pC)), (b23, .inl (g.2.1 1, 480, .inl pH)), (b24, .inl (g.2.1 1, 480, .inl pK)), (b25, .inl (g.2.1 1, 480, .inl pA)), (b26, .inl (g.2.1 1, 480, .inl pB)), (b28, .inl (g.2.1 1, 40, .inl pW)), (b29, .inl (g.2.1 1, 40, .inl pR))] (fun u => u = [(h0, .inr (12, vs)), (b6, .inl (g.2.1 1, 11, .inl rP)), (b7, .inl (g.2.1 1, 11, .inl rL)), (b12, .inl (g.2.1 1, 132, .inl rA)), (b13, .inl (g.2.1 1, 132, .inl rB)), (b14, .inl (g.2.1 1, 132, .inl rF)), (b15, .inl (g.2.1 1, 132, .inl rT)), (b16, .inl (g.2.1 1, 132, .inl rW)), (b17, .inl (g.2.1 3, 132, .inl rO)), (b21, .inl (g.2.1 1, 12, .inl pO)), (b22, .inl (g.2.1 1, 12, .inl pC)), (b23, .inl (g.2.1 1, 480, .inl pH)), (b24, .inl (g.2.1 1, 480, .inl pK)), (b25, .inl (g.2.1 1, 480, .inl pA)), (b26, .inl (g.2.1 1, 480, .inl pB)), (b28, .inl (g.2.1 1, 40, .inl ((F_X12_judge rA rB rF rT rW rO pH pK pA pB pW pR lc pe i v9 cn).1))), (b29, .inl (g.2.1 1, 40, .inl ((F_X12_judge rA rB rF rT rW rO pH pK pA pB pW pR lc pe i v9 cn).2)))]) := by
  refine MetV.of (own := RX12) rfl (by decide) (Nat.le_of_ble_eq_true rfl) ?_
  intro p e s m below meth c A ls args Q hQ X hr hin hW hl
  have hx := X.1
  have hb := X.2.1
  have hl : lv_has ls 6 [(0, .ref h0), (1, .int (nI i))] := hl
  refine lv_iconst (v := 1) (pc := 0) hx hb dX12_judge_0 (by decide) ?_
  refine lv_istore_n (lv' := [(2, .int 1), (0, .ref h0), (1, .int (nI i))]) (pc := 1) hx hb dX12_judge_1 rfl hl (by decide) rfl (fun ls hl => ?_)
  have loop1 : ∀ (fu1 : Nat) (j1 : Nat) (fb28_1 : Nat → Int32) (fb29_1 : Nat → Int32), (24 < fu1 + j1) → (j1 ≤ 24) → ((fb28_1, fb29_1) = L1_X12_judge rA rB rF rT rW rO pH pK pA pB lc pe i v9 cn pW pR j1) → ∀ (H : Heap) (locs : List Loc) (ls : Array Slot), WD g A s H locs [(h0, .inr (12, vs)), (b6, .inl (g.2.1 1, 11, .inl rP)), (b7, .inl (g.2.1 1, 11, .inl rL)), (b12, .inl (g.2.1 1, 132, .inl rA)), (b13, .inl (g.2.1 1, 132, .inl rB)), (b14, .inl (g.2.1 1, 132, .inl rF)), (b15, .inl (g.2.1 1, 132, .inl rT)), (b16, .inl (g.2.1 1, 132, .inl rW)), (b17, .inl (g.2.1 3, 132, .inl rO)), (b21, .inl (g.2.1 1, 12, .inl pO)), (b22, .inl (g.2.1 1, 12, .inl pC)), (b23, .inl (g.2.1 1, 480, .inl pH)), (b24, .inl (g.2.1 1, 480, .inl pK)), (b25, .inl (g.2.1 1, 480, .inl pA)), (b26, .inl (g.2.1 1, 480, .inl pB)), (b28, .inl (g.2.1 1, 40, .inl fb28_1)), (b29, .inl (g.2.1 1, 40, .inl fb29_1))] → lv_has ls 6 [(2, .int (nI (j1 + 1))), (0, .ref h0), (1, .int (nI i))] → W p l e (RM 3 0 0) s m args below meth c H locs 0 0 Q (F0 m 2 ls []) := by
    intro fu1
    induction fu1 with
    | zero =>
      intro j1 fb28_1 fb29_1 hm1 hj1 hst1
      exact absurd hm1 (by omega)
    | succ fu1 ih1 =>
      intro j1 fb28_1 fb29_1 hm1 hj1 hst1 H locs ls hW hl
      refine lv_iload_n (pc := 2) hx hb dX12_judge_2 rfl (lv_at hl 0 rfl) ?_
      refine lv_bipush (v := 24) (pc := 3) hx hb dX12_judge_3 (by decide) ?_
      refine lv_icmp_gt (tgt := 160) (pc := 5) hx hb dX12_judge_5 rfl (fun c1 => ?_) (fun c1 => ?_)
      · have h2 : 24 < (j1 + 1) := (nI_ltI (a := 24) (b := (j1 + 1)) (by omega) (by omega)).mp c1
        have hN1 : j1 = 24 := by omega
        rw [hN1] at hst1
        have hs1_0 : fb28_1 = (L1_X12_judge rA rB rF rT rW rO pH pK pA pB lc pe i v9 cn pW pR 24).1 := congrArg (fun z => z.1) hst1
        have hs1_1 : fb29_1 = (L1_X12_judge rA rB rF rT rW rO pH pK pA pB lc pe i v9 cn pW pR 24).2 := congrArg (fun z => z.2) hst1
        clear hst1
        subst hs1_0
        subst hs1_1
        have hW : WD g A s _ _ [(h0, .inr (12, vs)), (b6, .inl (g.2.1 1, 11, .inl rP)), (b7, .inl (g.2.1 1, 11, .inl rL)), (b12, .inl (g.2.1 1, 132, .inl rA)), (b13, .inl (g.2.1 1, 132, .inl rB)), (b14, .inl (g.2.1 1, 132, .inl rF)), (b15, .inl (g.2.1 1, 132, .inl rT)), (b16, .inl (g.2.1 1, 132, .inl rW)), (b17, .inl (g.2.1 3, 132, .inl rO)), (b21, .inl (g.2.1 1, 12, .inl pO)), (b22, .inl (g.2.1 1, 12, .inl pC)), (b23, .inl (g.2.1 1, 480, .inl pH)), (b24, .inl (g.2.1 1, 480, .inl pK)), (b25, .inl (g.2.1 1, 480, .inl pA)), (b26, .inl (g.2.1 1, 480, .inl pB)), (b28, .inl (g.2.1 1, 40, .inl ((L1_X12_judge rA rB rF rT rW rO pH pK pA pB lc pe i v9 cn pW pR 24).1))), (b29, .inl (g.2.1 1, 40, .inl ((L1_X12_judge rA rB rF rT rW rO pH pK pA pB lc pe i v9 cn pW pR 24).2)))] := hW
        have hF : F_X12_judge rA rB rF rT rW rO pH pK pA pB pW pR lc pe i v9 cn = (((L1_X12_judge rA rB rF rT rW rO pH pK pA pB lc pe i v9 cn pW pR 24).1), ((L1_X12_judge rA rB rF rT rW rO pH pK pA pB lc pe i v9 cn pW pR 24).2)) := show F_X12_judge rA rB rF rT rW rO pH pK pA pB pW pR lc pe i v9 cn = (((L1_X12_judge rA rB rF rT rW rO pH pK pA pB lc pe i v9 cn pW pR 24).1), ((L1_X12_judge rA rB rF rT rW rO pH pK pA pB lc pe i v9 cn pW pR 24).2)) from rfl
        exact e_v (u := [(h0, .inr (12, vs)), (b6, .inl (g.2.1 1, 11, .inl rP)), (b7, .inl (g.2.1 1, 11, .inl rL)), (b12, .inl (g.2.1 1, 132, .inl rA)), (b13, .inl (g.2.1 1, 132, .inl rB)), (b14, .inl (g.2.1 1, 132, .inl rF)), (b15, .inl (g.2.1 1, 132, .inl rT)), (b16, .inl (g.2.1 1, 132, .inl rW)), (b17, .inl (g.2.1 3, 132, .inl rO)), (b21, .inl (g.2.1 1, 12, .inl pO)), (b22, .inl (g.2.1 1, 12, .inl pC)), (b23, .inl (g.2.1 1, 480, .inl pH)), (b24, .inl (g.2.1 1, 480, .inl pK)), (b25, .inl (g.2.1 1, 480, .inl pA)), (b26, .inl (g.2.1 1, 480, .inl pB)), (b28, .inl (g.2.1 1, 40, .inl ((L1_X12_judge rA rB rF rT rW rO pH pK pA pB lc pe i v9 cn pW pR 24).1))), (b29, .inl (g.2.1 1, 40, .inl ((L1_X12_judge rA rB rF rT rW rO pH pK pA pB lc pe i v9 cn pW pR 24).2)))]) X hQ hr (hW) [0, 1, 2, 3, 4, 5, 6, 7, 8, 9, 10, 11, 12, 13, 14, 15, 16] rfl rfl (by rw [hF]) ⟨Nat.le_of_ble_eq_true rfl, Nat.le_of_ble_eq_true rfl⟩ dX12_judge_160
      · have h3 : ¬ (24 < (j1 + 1)) := fun q => c1 ((nI_ltI (a := 24) (b := (j1 + 1)) (by omega) (by omega)).mpr q)
        refine lv_iconst (v := 0) (pc := 8) hx hb dX12_judge_8 (by decide) ?_
        refine lv_istore_n (lv' := [(3, .int 0), (2, .int (nI (j1 + 1))), (0, .ref h0), (1, .int (nI i))]) (pc := 9) hx hb dX12_judge_9 rfl hl (by decide) rfl (fun ls hl => ?_)
        refine lv_iconst (v := 0) (pc := 10) hx hb dX12_judge_10 (by decide) ?_
        refine lv_istore (lv' := [(4, .int 0), (3, .int 0), (2, .int (nI (j1 + 1))), (0, .ref h0), (1, .int (nI i))]) (pc := 11) hx hb dX12_judge_11 hl (by decide) rfl (fun ls hl => ?_)
        have loop2 : ∀ (fu2 : Nat) (j2 : Nat) (x3_2 : Int32) (fb28_2 : Nat → Int32) (fb29_2 : Nat → Int32), (cn < fu2 + j2) → (j2 ≤ cn) → ((x3_2, fb28_2, fb29_2) = L2_X12_judge rA rB rF rT rW rO pH pK pA pB lc pe i v9 j1 (0 : Int32) fb28_1 fb29_1 j2) → ∀ (H : Heap) (locs : List Loc) (ls : Array Slot), WD g A s H locs [(h0, .inr (12, vs)), (b6, .inl (g.2.1 1, 11, .inl rP)), (b7, .inl (g.2.1 1, 11, .inl rL)), (b12, .inl (g.2.1 1, 132, .inl rA)), (b13, .inl (g.2.1 1, 132, .inl rB)), (b14, .inl (g.2.1 1, 132, .inl rF)), (b15, .inl (g.2.1 1, 132, .inl rT)), (b16, .inl (g.2.1 1, 132, .inl rW)), (b17, .inl (g.2.1 3, 132, .inl rO)), (b21, .inl (g.2.1 1, 12, .inl pO)), (b22, .inl (g.2.1 1, 12, .inl pC)), (b23, .inl (g.2.1 1, 480, .inl pH)), (b24, .inl (g.2.1 1, 480, .inl pK)), (b25, .inl (g.2.1 1, 480, .inl pA)), (b26, .inl (g.2.1 1, 480, .inl pB)), (b28, .inl (g.2.1 1, 40, .inl fb28_2)), (b29, .inl (g.2.1 1, 40, .inl fb29_2))] → lv_has ls 6 [(4, .int (nI j2)), (3, .int x3_2), (2, .int (nI (j1 + 1))), (0, .ref h0), (1, .int (nI i))] → W p l e (RM 3 0 0) s m args below meth c H locs 0 0 Q (F0 m 13 ls []) := by
          intro fu2
          induction fu2 with
          | zero =>
            intro j2 x3_2 fb28_2 fb29_2 hm2 hj2 hst2
            exact absurd hm2 (by omega)
          | succ fu2 ih2 =>
            intro j2 x3_2 fb28_2 fb29_2 hm2 hj2 hst2 H locs ls hW hl
            refine lv_iload (pc := 13) hx hb dX12_judge_13 (lv_at hl 0 rfl) ?_
            refine lv_aload_n (pc := 15) hx hb dX12_judge_15 rfl (lv_at hl 3 rfl) ?_
            refine r_get X hW 0 ciX12 22 rfl (by decide) m_1253 rfl h22_ dX12_judge_16 ?_
            refine lv_iload_n (pc := 19) hx hb dX12_judge_19 rfl (lv_at hl 4 rfl) ?_
            refine r_iald X hW 10 rfl (vp_in_nI (by omega) (by decide)) dX12_judge_20 ?_
            refine lv_topi (fun v4 ev4 => ?_)
            obtain rfl : v4 = pC i := ev4.trans (by rw [nI_clamp (by omega)])
            rw [hC]
            refine lv_icmp_ge (tgt := 154) (pc := 21) hx hb dX12_judge_21 rfl (fun c5 => ?_) (fun c5 => ?_)
            · have h6 : cn ≤ j2 := (nI_leI (a := cn) (b := j2) (by omega) (by omega)).mp c5
              have hN2 : j2 = cn := by omega
              rw [hN2] at hst2
              have hs2_0 : x3_2 = (L2_X12_judge rA rB rF rT rW rO pH pK pA pB lc pe i v9 j1 (0 : Int32) fb28_1 fb29_1 cn).1 := congrArg (fun z => z.1) hst2
              have hs2_1 : fb28_2 = (L2_X12_judge rA rB rF rT rW rO pH pK pA pB lc pe i v9 j1 (0 : Int32) fb28_1 fb29_1 cn).2.1 := congrArg (fun z => z.2.1) hst2
              have hs2_2 : fb29_2 = (L2_X12_judge rA rB rF rT rW rO pH pK pA pB lc pe i v9 j1 (0 : Int32) fb28_1 fb29_1 cn).2.2 := congrArg (fun z => z.2.2) hst2
              clear hst2
              subst hs2_0
              subst hs2_1
              subst hs2_2
              have hW : WD g A s _ _ [(h0, .inr (12, vs)), (b6, .inl (g.2.1 1, 11, .inl rP)), (b7, .inl (g.2.1 1, 11, .inl rL)), (b12, .inl (g.2.1 1, 132, .inl rA)), (b13, .inl (g.2.1 1, 132, .inl rB)), (b14, .inl (g.2.1 1, 132, .inl rF)), (b15, .inl (g.2.1 1, 132, .inl rT)), (b16, .inl (g.2.1 1, 132, .inl rW)), (b17, .inl (g.2.1 3, 132, .inl rO)), (b21, .inl (g.2.1 1, 12, .inl pO)), (b22, .inl (g.2.1 1, 12, .inl pC)), (b23, .inl (g.2.1 1, 480, .inl pH)), (b24, .inl (g.2.1 1, 480, .inl pK)), (b25, .inl (g.2.1 1, 480, .inl pA)), (b26, .inl (g.2.1 1, 480, .inl pB)), (b28, .inl (g.2.1 1, 40, .inl ((L2_X12_judge rA rB rF rT rW rO pH pK pA pB lc pe i v9 j1 (0 : Int32) fb28_1 fb29_1 cn).2.1))), (b29, .inl (g.2.1 1, 40, .inl ((L2_X12_judge rA rB rF rT rW rO pH pK pA pB lc pe i v9 j1 (0 : Int32) fb28_1 fb29_1 cn).2.2)))] := hW
              refine lv_iinc (v := nI (j1 + 1 + 1)) (lv' := [(2, .int (nI (j1 + 1 + 1))), (4, .int (nI j2)), (3, .int ((L2_X12_judge rA rB rF rT rW rO pH pK pA pB lc pe i v9 j1 (0 : Int32) fb28_1 fb29_1 cn).1)), (0, .ref h0), (1, .int (nI i))]) (pc := 154) hx hb dX12_judge_154 hl (k := 2) rfl (nI_add (j1 + 1) 1) (by decide) rfl (fun ls hl => ?_)
              refine lv_goto (tgt := 2) (pc := 157) hx hb dX12_judge_157 rfl ?_
              exact ih1 (j1 + 1) ((L2_X12_judge rA rB rF rT rW rO pH pK pA pB lc pe i v9 j1 (0 : Int32) fb28_1 fb29_1 cn).2.1) ((L2_X12_judge rA rB rF rT rW rO pH pK pA pB lc pe i v9 j1 (0 : Int32) fb28_1 fb29_1 cn).2.2) (by omega) (by omega) (by rw [L1_X12_judge, ← hst1]; exact (show L1_X12_judges rA rB rF rT rW rO pH pK pA pB lc pe i v9 cn j1 fb28_1 fb29_1 = (((L2_X12_judge rA rB rF rT rW rO pH pK pA pB lc pe i v9 j1 (0 : Int32) fb28_1 fb29_1 cn).2.1), ((L2_X12_judge rA rB rF rT rW rO pH pK pA pB lc pe i v9 j1 (0 : Int32) fb28_1 fb29_1 cn).2.2)) from rfl).symm) _ _ _ hW (lv_sub hl [0, 3, 4] rfl)
            · have h7 : ¬ (cn ≤ j2) := fun q => c5 ((nI_leI (a := cn) (b := j2) (by omega) (by omega)).mpr q)
              refine lv_bipush (v := 40) (pc := 24) hx hb dX12_judge_24 (by decide) ?_
              refine lv_iload_n (pc := 26) hx hb dX12_judge_26 rfl (lv_at hl 4 rfl) ?_
              refine lv_imul (pc := 27) hx hb dX12_judge_27 ?_
              refine lv_topi (fun v8 ev8 => ?_)
              obtain rfl : v8 = nI (40 * i) := ev8.trans (pk_mul 40 i)
              refine lv_iload (pc := 28) hx hb dX12_judge_28 (lv_at hl 0 rfl) ?_
              refine lv_iadd (pc := 30) hx hb dX12_judge_30 ?_
              refine lv_topi (fun v9 ev9 => ?_)
              obtain rfl : v9 = nI (40 * i + j2) := ev9.trans (nI_add _ _)
              refine lv_istore (lv' := [(5, .int (nI (40 * i + j2))), (4, .int (nI j2)), (3, .int x3_2), (2, .int (nI (j1 + 1))), (0, .ref h0), (1, .int (nI i))]) (pc := 31) hx hb dX12_judge_31 hl (by decide) rfl (fun ls hl => ?_)
              refine lv_aload_n (pc := 33) hx hb dX12_judge_33 rfl (lv_at hl 4 rfl) ?_
              refine r_get X hW 0 ciX12 23 rfl (by decide) m_1254 rfl h23_ dX12_judge_34 ?_
              refine lv_iload (pc := 37) hx hb dX12_judge_37 (lv_at hl 0 rfl) ?_
              refine r_iald X hW 11 rfl (vp_in_nI (by omega) (by decide)) dX12_judge_39 ?_
              refine lv_topi (fun v10 ev10 => ?_)
              obtain rfl : v10 = pH (40 * i + j2) := ev10.trans (by rw [nI_clamp (by omega)])
              refine lv_iload_n (pc := 40) hx hb dX12_judge_40 rfl (lv_at hl 3 rfl) ?_
              refine lv_icmp_eq (tgt := 47) (pc := 41) hx hb dX12_judge_41 rfl (fun c11 => ?_) (fun c11 => ?_)
              · refine lv_aload_n (pc := 47) hx hb dX12_judge_47 rfl (lv_at hl 4 rfl) ?_
                refine r_get X hW 0 ciX12 29 rfl (by decide) m_1260 rfl h29_ dX12_judge_48 ?_
                refine lv_iload (pc := 51) hx hb dX12_judge_51 (lv_at hl 1 rfl) ?_
                refine lv_aload_n (pc := 53) hx hb dX12_judge_53 rfl (lv_at hl 4 rfl) ?_
                refine lv_iload_n (pc := 54) hx hb dX12_judge_54 rfl (lv_at hl 5 rfl) ?_
                refine lv_iload (pc := 55) hx hb dX12_judge_55 (lv_at hl 0 rfl) ?_
                refine c_Vi (pc := 57) (As := [.int (nI i), .int (nI (40 * i + j2))]) (rest := [.int (nI j2), .ref b29]) (wr := [(b22, .inl (g.2.1 1, 12, .inl pC)), (b28, .inl (g.2.1 1, 40, .inl fb28_2)), (b29, .inl (g.2.1 1, 40, .inl fb29_2))]) X hW 0 ciX12 rfl (K_X12_reaches l g h0 vs b6 rP b7 rL b12 rA b13 rB b14 rF b15 rT b16 rW b17 rO b21 pO b23 pH b24 pK b25 pA b26 pB lc pe i v9 (40 * i + j2) (tN (pA (40 * i + j2))) hlen h6_ h7_ h12_ h13_ h14_ h15_ h16_ h17_ h21_ h23_ h24_ h25_ h26_ h19_ h20_ (by omega) (by omega) (by omega) (by omega) hO hP hL (by omega) (hOn j2 (by omega)).2 (hOn j2 (by omega)).1 (hOt j2 (by omega))) vX12_250 [0, 1, 2, 3, 4, 5, 6, 7, 8, 9, 11, 12, 13, 14] [10, 15, 16] rfl rfl rfl rfl rfl rfl hl.1 rfl (Nat.le_of_ble_eq_true rfl) ⟨Nat.le_of_ble_eq_true rfl, Nat.le_of_ble_eq_true rfl⟩ ⟨Nat.le_of_ble_eq_true rfl, Nat.le_of_ble_eq_true rfl⟩ dX12_judge_57 (fun r13 u9 H locs hq hW => ?_)
                obtain ⟨rfl, rfl⟩ := hq
                have hW : WD g A s _ _ [(b22, .inl (g.2.1 1, 12, .inl pC)), (b28, .inl (g.2.1 1, 40, .inl fb28_2)), (b29, .inl (g.2.1 1, 40, .inl fb29_2)), (h0, .inr (12, vs)), (b6, .inl (g.2.1 1, 11, .inl rP)), (b7, .inl (g.2.1 1, 11, .inl rL)), (b12, .inl (g.2.1 1, 132, .inl rA)), (b13, .inl (g.2.1 1, 132, .inl rB)), (b14, .inl (g.2.1 1, 132, .inl rF)), (b15, .inl (g.2.1 1, 132, .inl rT)), (b16, .inl (g.2.1 1, 132, .inl rW)), (b17, .inl (g.2.1 3, 132, .inl rO)), (b21, .inl (g.2.1 1, 12, .inl pO)), (b23, .inl (g.2.1 1, 480, .inl pH)), (b24, .inl (g.2.1 1, 480, .inl pK)), (b25, .inl (g.2.1 1, 480, .inl pA)), (b26, .inl (g.2.1 1, 480, .inl pB))] := hW
                refine r_iast (ws' := [(b22, .inl (g.2.1 1, 12, .inl pC)), (b28, .inl (g.2.1 1, 40, .inl fb28_2)), (b29, .inl (g.2.1 1, 40, .inl (upd fb29_2 j2 (F_X12_reaches rA rB rF rT rW rO pH pK pB lc pe v9 (40 * i + j2) (tN (pA (40 * i + j2))))))), (h0, .inr (12, vs)), (b6, .inl (g.2.1 1, 11, .inl rP)), (b7, .inl (g.2.1 1, 11, .inl rL)), (b12, .inl (g.2.1 1, 132, .inl rA)), (b13, .inl (g.2.1 1, 132, .inl rB)), (b14, .inl (g.2.1 1, 132, .inl rF)), (b15, .inl (g.2.1 1, 132, .inl rT)), (b16, .inl (g.2.1 1, 132, .inl rW)), (b17, .inl (g.2.1 3, 132, .inl rO)), (b21, .inl (g.2.1 1, 12, .inl pO)), (b23, .inl (g.2.1 1, 480, .inl pH)), (b24, .inl (g.2.1 1, 480, .inl pK)), (b25, .inl (g.2.1 1, 480, .inl pA)), (b26, .inl (g.2.1 1, 480, .inl pB))]) X hW 2 rfl (vp_in_nI (by omega) (by decide)) (f' := (upd fb29_2 j2 (F_X12_reaches rA rB rF rT rW rO pH pK pB lc pe v9 (40 * i + j2) (tN (pA (40 * i + j2)))))) (by rw [nI_clamp (by omega)]) rfl dX12_judge_60 (fun H locs hW => ?_)
                refine lv_aload_n (pc := 61) hx hb dX12_judge_61 rfl (lv_at hl 4 rfl) ?_
                refine r_get X hW 3 ciX12 28 rfl (by decide) m_1259 rfl h28_ dX12_judge_62 ?_
                refine lv_iload (pc := 65) hx hb dX12_judge_65 (lv_at hl 1 rfl) ?_
                refine lv_aload_n (pc := 67) hx hb dX12_judge_67 rfl (lv_at hl 4 rfl) ?_
                refine r_get X hW 3 ciX12 29 rfl (by decide) m_1260 rfl h29_ dX12_judge_68 ?_
                refine lv_iload (pc := 71) hx hb dX12_judge_71 (lv_at hl 1 rfl) ?_
                refine r_iald X hW 2 rfl (vp_in_nI (by omega) (by decide)) dX12_judge_73 ?_
                refine lv_topi (fun v14 ev14 => ?_)
                obtain rfl : v14 = (upd fb29_2 j2 (F_X12_reaches rA rB rF rT rW rO pH pK pB lc pe v9 (40 * i + j2) (tN (pA (40 * i + j2))))) j2 := ev14.trans (by rw [nI_clamp (by omega)])
                refine lv_if_ne (tgt := 81) (pc := 74) hx hb dX12_judge_74 rfl (fun c15 => ?_) (fun c15 => ?_)
                · refine lv_iload_n (pc := 81) hx hb dX12_judge_81 rfl (lv_at hl 2 rfl) ?_
                  refine lv_aload_n (pc := 82) hx hb dX12_judge_82 rfl (lv_at hl 4 rfl) ?_
                  refine r_get X hW 3 ciX12 25 rfl (by decide) m_1256 rfl h25_ dX12_judge_83 ?_
                  refine lv_iload (pc := 86) hx hb dX12_judge_86 (lv_at hl 0 rfl) ?_
                  refine r_iald X hW 15 rfl (vp_in_nI (by omega) (by decide)) dX12_judge_88 ?_
                  refine lv_topi (fun v17 ev17 => ?_)
                  obtain rfl : v17 = pA (40 * i + j2) := ev17.trans (by rw [nI_clamp (by omega)])
                  refine lv_ishr (pc := 89) hx hb dX12_judge_89 ?_
                  refine lv_iconst (v := 1) (pc := 90) hx hb dX12_judge_90 (by decide) ?_
                  refine lv_iand (pc := 91) hx hb dX12_judge_91 ?_
                  refine lv_iconst (v := 1) (pc := 92) hx hb dX12_judge_92 (by decide) ?_
                  refine lv_icmp_ne (tgt := 100) (pc := 93) hx hb dX12_judge_93 rfl (fun c18 => ?_) (fun c18 => ?_)
                  · refine lv_iload_n (pc := 100) hx hb dX12_judge_100 rfl (lv_at hl 2 rfl) ?_
                    refine lv_aload_n (pc := 101) hx hb dX12_judge_101 rfl (lv_at hl 4 rfl) ?_
                    refine r_get X hW 3 ciX12 29 rfl (by decide) m_1260 rfl h29_ dX12_judge_102 ?_
                    refine lv_iload (pc := 105) hx hb dX12_judge_105 (lv_at hl 1 rfl) ?_
                    refine r_iald X hW 2 rfl (vp_in_nI (by omega) (by decide)) dX12_judge_107 ?_
                    refine lv_topi (fun v20 ev20 => ?_)
                    obtain rfl : v20 = (upd fb29_2 j2 (F_X12_reaches rA rB rF rT rW rO pH pK pB lc pe v9 (40 * i + j2) (tN (pA (40 * i + j2))))) j2 := ev20.trans (by rw [nI_clamp (by omega)])
                    refine lv_iand (pc := 108) hx hb dX12_judge_108 ?_
                    refine lv_if_eq (tgt := 116) (pc := 109) hx hb dX12_judge_109 rfl (fun c21 => ?_) (fun c21 => ?_)
                    · refine lv_iconst (v := 0) (pc := 116) hx hb dX12_judge_116 (by decide) ?_
                      refine r_iast (ws' := [(b22, .inl (g.2.1 1, 12, .inl pC)), (b28, .inl (g.2.1 1, 40, .inl (upd fb28_2 j2 (0 : Int32)))), (b29, .inl (g.2.1 1, 40, .inl (upd fb29_2 j2 (F_X12_reaches rA rB rF rT rW rO pH pK pB lc pe v9 (40 * i + j2) (tN (pA (40 * i + j2))))))), (h0, .inr (12, vs)), (b6, .inl (g.2.1 1, 11, .inl rP)), (b7, .inl (g.2.1 1, 11, .inl rL)), (b12, .inl (g.2.1 1, 132, .inl rA)), (b13, .inl (g.2.1 1, 132, .inl rB)), (b14, .inl (g.2.1 1, 132, .inl rF)), (b15, .inl (g.2.1 1, 132, .inl rT)), (b16, .inl (g.2.1 1, 132, .inl rW)), (b17, .inl (g.2.1 3, 132, .inl rO)), (b21, .inl (g.2.1 1, 12, .inl pO)), (b23, .inl (g.2.1 1, 480, .inl pH)), (b24, .inl (g.2.1 1, 480, .inl pK)), (b25, .inl (g.2.1 1, 480, .inl pA)), (b26, .inl (g.2.1 1, 480, .inl pB))]) X hW 1 rfl (vp_in_nI (by omega) (by decide)) (f' := (upd fb28_2 j2 (0 : Int32))) (by rw [nI_clamp (by omega)]) rfl dX12_judge_117 (fun H locs hW => ?_)
                      refine lv_aload_n (pc := 118) hx hb dX12_judge_118 rfl (lv_at hl 4 rfl) ?_
                      refine r_get X hW 3 ciX12 28 rfl (by decide) m_1259 rfl h28_ dX12_judge_119 ?_
                      refine lv_iload (pc := 122) hx hb dX12_judge_122 (lv_at hl 1 rfl) ?_
                      refine r_iald X hW 1 rfl (vp_in_nI (by omega) (by decide)) dX12_judge_124 ?_
                      refine lv_topi (fun v23 ev23 => ?_)
                      obtain rfl : v23 = (upd fb28_2 j2 (0 : Int32)) j2 := ev23.trans (by rw [nI_clamp (by omega)])
                      refine lv_if_ne (tgt := 148) (pc := 125) hx hb dX12_judge_125 rfl (fun c24 => ?_) (fun c24 => ?_)
                      · refine lv_iinc (v := nI (j2 + 1)) (lv' := [(4, .int (nI (j2 + 1))), (5, .int (nI (40 * i + j2))), (3, .int x3_2), (2, .int (nI (j1 + 1))), (0, .ref h0), (1, .int (nI i))]) (pc := 148) hx hb dX12_judge_148 hl (k := 1) rfl (nI_add j2 1) (by decide) rfl (fun ls hl => ?_)
                        refine lv_goto (tgt := 13) (pc := 151) hx hb dX12_judge_151 rfl ?_
                        have hW : WD g A s _ _ [(h0, .inr (12, vs)), (b6, .inl (g.2.1 1, 11, .inl rP)), (b7, .inl (g.2.1 1, 11, .inl rL)), (b12, .inl (g.2.1 1, 132, .inl rA)), (b13, .inl (g.2.1 1, 132, .inl rB)), (b14, .inl (g.2.1 1, 132, .inl rF)), (b15, .inl (g.2.1 1, 132, .inl rT)), (b16, .inl (g.2.1 1, 132, .inl rW)), (b17, .inl (g.2.1 3, 132, .inl rO)), (b21, .inl (g.2.1 1, 12, .inl pO)), (b22, .inl (g.2.1 1, 12, .inl pC)), (b23, .inl (g.2.1 1, 480, .inl pH)), (b24, .inl (g.2.1 1, 480, .inl pK)), (b25, .inl (g.2.1 1, 480, .inl pA)), (b26, .inl (g.2.1 1, 480, .inl pB)), (b28, .inl (g.2.1 1, 40, .inl (upd fb28_2 j2 (0 : Int32)))), (b29, .inl (g.2.1 1, 40, .inl (upd fb29_2 j2 (F_X12_reaches rA rB rF rT rW rO pH pK pB lc pe v9 (40 * i + j2) (tN (pA (40 * i + j2)))))))] := hW.pick [3, 4, 5, 6, 7, 8, 9, 10, 11, 12, 0, 13, 14, 15, 16, 1, 2] rfl rfl
                        exact ih2 (j2 + 1) x3_2 (upd fb28_2 j2 (0 : Int32)) (upd fb29_2 j2 (F_X12_reaches rA rB rF rT rW rO pH pK pB lc pe v9 (40 * i + j2) (tN (pA (40 * i + j2))))) (by omega) (by omega) (by rw [L2_X12_judge, ← hst2]; exact (show L2_X12_judges rA rB rF rT rW rO pH pK pA pB lc pe i v9 j1 j2 x3_2 fb28_2 fb29_2 = (x3_2, (upd fb28_2 j2 (0 : Int32)), (upd fb29_2 j2 (F_X12_reaches rA rB rF rT rW rO pH pK pB lc pe v9 (40 * i + j2) (tN (pA (40 * i + j2)))))) from by rw [L2_X12_judges, if_pos c11, if_neg c15, if_neg c18, if_pos c21, if_neg c24]).symm) _ _ _ hW (lv_sub hl [0, 2, 3, 4, 5] rfl)
                      · refine lv_iload_n (pc := 128) hx hb dX12_judge_128 rfl (lv_at hl 2 rfl) ?_
                        refine lv_aload_n (pc := 129) hx hb dX12_judge_129 rfl (lv_at hl 4 rfl) ?_
                        refine r_get X hW 3 ciX12 29 rfl (by decide) m_1260 rfl h29_ dX12_judge_130 ?_
                        refine lv_iload (pc := 133) hx hb dX12_judge_133 (lv_at hl 1 rfl) ?_
                        refine r_iald X hW 2 rfl (vp_in_nI (by omega) (by decide)) dX12_judge_135 ?_
                        refine lv_topi (fun v27 ev27 => ?_)
                        obtain rfl : v27 = (upd fb29_2 j2 (F_X12_reaches rA rB rF rT rW rO pH pK pB lc pe v9 (40 * i + j2) (tN (pA (40 * i + j2))))) j2 := ev27.trans (by rw [nI_clamp (by omega)])
                        refine lv_iconst (v := 1) (pc := 136) hx hb dX12_judge_136 (by decide) ?_
                        refine lv_aload_n (pc := 137) hx hb dX12_judge_137 rfl (lv_at hl 4 rfl) ?_
                        refine r_get X hW 3 ciX12 25 rfl (by decide) m_1256 rfl h25_ dX12_judge_138 ?_
                        refine lv_iload (pc := 141) hx hb dX12_judge_141 (lv_at hl 0 rfl) ?_
                        refine r_iald X hW 15 rfl (vp_in_nI (by omega) (by decide)) dX12_judge_143 ?_
                        refine lv_topi (fun v28 ev28 => ?_)
                        obtain rfl : v28 = pA (40 * i + j2) := ev28.trans (by rw [nI_clamp (by omega)])
                        refine lv_ishl (pc := 144) hx hb dX12_judge_144 ?_
                        refine lv_ior (pc := 145) hx hb dX12_judge_145 ?_
                        refine lv_ior (pc := 146) hx hb dX12_judge_146 ?_
                        refine lv_istore_n (lv' := [(3, .int (x3_2 ||| (((upd fb29_2 j2 (F_X12_reaches rA rB rF rT rW rO pH pK pB lc pe v9 (40 * i + j2) (tN (pA (40 * i + j2))))) j2) ||| ((1 : Int32) <<< ((pA (40 * i + j2)) &&& 31))))), (5, .int (nI (40 * i + j2))), (4, .int (nI j2)), (2, .int (nI (j1 + 1))), (0, .ref h0), (1, .int (nI i))]) (pc := 147) hx hb dX12_judge_147 rfl hl (by decide) rfl (fun ls hl => ?_)
                        refine lv_iinc (v := nI (j2 + 1)) (lv' := [(4, .int (nI (j2 + 1))), (3, .int (x3_2 ||| (((upd fb29_2 j2 (F_X12_reaches rA rB rF rT rW rO pH pK pB lc pe v9 (40 * i + j2) (tN (pA (40 * i + j2))))) j2) ||| ((1 : Int32) <<< ((pA (40 * i + j2)) &&& 31))))), (5, .int (nI (40 * i + j2))), (2, .int (nI (j1 + 1))), (0, .ref h0), (1, .int (nI i))]) (pc := 148) hx hb dX12_judge_148 hl (k := 2) rfl (nI_add j2 1) (by decide) rfl (fun ls hl => ?_)
                        refine lv_goto (tgt := 13) (pc := 151) hx hb dX12_judge_151 rfl ?_
                        have hW : WD g A s _ _ [(h0, .inr (12, vs)), (b6, .inl (g.2.1 1, 11, .inl rP)), (b7, .inl (g.2.1 1, 11, .inl rL)), (b12, .inl (g.2.1 1, 132, .inl rA)), (b13, .inl (g.2.1 1, 132, .inl rB)), (b14, .inl (g.2.1 1, 132, .inl rF)), (b15, .inl (g.2.1 1, 132, .inl rT)), (b16, .inl (g.2.1 1, 132, .inl rW)), (b17, .inl (g.2.1 3, 132, .inl rO)), (b21, .inl (g.2.1 1, 12, .inl pO)), (b22, .inl (g.2.1 1, 12, .inl pC)), (b23, .inl (g.2.1 1, 480, .inl pH)), (b24, .inl (g.2.1 1, 480, .inl pK)), (b25, .inl (g.2.1 1, 480, .inl pA)), (b26, .inl (g.2.1 1, 480, .inl pB)), (b28, .inl (g.2.1 1, 40, .inl (upd fb28_2 j2 (0 : Int32)))), (b29, .inl (g.2.1 1, 40, .inl (upd fb29_2 j2 (F_X12_reaches rA rB rF rT rW rO pH pK pB lc pe v9 (40 * i + j2) (tN (pA (40 * i + j2)))))))] := hW.pick [3, 4, 5, 6, 7, 8, 9, 10, 11, 12, 0, 13, 14, 15, 16, 1, 2] rfl rfl
                        exact ih2 (j2 + 1) (x3_2 ||| (((upd fb29_2 j2 (F_X12_reaches rA rB rF rT rW rO pH pK pB lc pe v9 (40 * i + j2) (tN (pA (40 * i + j2))))) j2) ||| ((1 : Int32) <<< ((pA (40 * i + j2)) &&& 31)))) (upd fb28_2 j2 (0 : Int32)) (upd fb29_2 j2 (F_X12_reaches rA rB rF rT rW rO pH pK pB lc pe v9 (40 * i + j2) (tN (pA (40 * i + j2))))) (by omega) (by omega) (by rw [L2_X12_judge, ← hst2]; exact (show L2_X12_judges rA rB rF rT rW rO pH pK pA pB lc pe i v9 j1 j2 x3_2 fb28_2 fb29_2 = (x3_2 ||| (((upd fb29_2 j2 (F_X12_reaches rA rB rF rT rW rO pH pK pB lc pe v9 (40 * i + j2) (tN (pA (40 * i + j2))))) j2) ||| ((1 : Int32) <<< ((pA (40 * i + j2)) &&& 31))), (upd fb28_2 j2 (0 : Int32)), (upd fb29_2 j2 (F_X12_reaches rA rB rF rT rW rO pH pK pB lc pe v9 (40 * i + j2) (tN (pA (40 * i + j2)))))) from by rw [L2_X12_judges, if_pos c11, if_neg c15, if_neg c18, if_pos c21, if_pos c24]).symm) _ _ _ hW (lv_sub hl [0, 1, 3, 4, 5] rfl)
                    · refine lv_iconst (v := 3) (pc := 112) hx hb dX12_judge_112 (by decide) ?_
                      refine lv_goto (tgt := 117) (pc := 113) hx hb dX12_judge_113 rfl ?_
                      refine r_iast (ws' := [(b22, .inl (g.2.1 1, 12, .inl pC)), (b28, .inl (g.2.1 1, 40, .inl (upd fb28_2 j2 (3 : Int32)))), (b29, .inl (g.2.1 1, 40, .inl (upd fb29_2 j2 (F_X12_reaches rA rB rF rT rW rO pH pK pB lc pe v9 (40 * i + j2) (tN (pA (40 * i + j2))))))), (h0, .inr (12, vs)), (b6, .inl (g.2.1 1, 11, .inl rP)), (b7, .inl (g.2.1 1, 11, .inl rL)), (b12, .inl (g.2.1 1, 132, .inl rA)), (b13, .inl (g.2.1 1, 132, .inl rB)), (b14, .inl (g.2.1 1, 132, .inl rF)), (b15, .inl (g.2.1 1, 132, .inl rT)), (b16, .inl (g.2.1 1, 132, .inl rW)), (b17, .inl (g.2.1 3, 132, .inl rO)), (b21, .inl (g.2.1 1, 12, .inl pO)), (b23, .inl (g.2.1 1, 480, .inl pH)), (b24, .inl (g.2.1 1, 480, .inl pK)), (b25, .inl (g.2.1 1, 480, .inl pA)), (b26, .inl (g.2.1 1, 480, .inl pB))]) X hW 1 rfl (vp_in_nI (by omega) (by decide)) (f' := (upd fb28_2 j2 (3 : Int32))) (by rw [nI_clamp (by omega)]) rfl dX12_judge_117 (fun H locs hW => ?_)
                      refine lv_aload_n (pc := 118) hx hb dX12_judge_118 rfl (lv_at hl 4 rfl) ?_
                      refine r_get X hW 3 ciX12 28 rfl (by decide) m_1259 rfl h28_ dX12_judge_119 ?_
                      refine lv_iload (pc := 122) hx hb dX12_judge_122 (lv_at hl 1 rfl) ?_
                      refine r_iald X hW 1 rfl (vp_in_nI (by omega) (by decide)) dX12_judge_124 ?_
                      refine lv_topi (fun v30 ev30 => ?_)
                      obtain rfl : v30 = (upd fb28_2 j2 (3 : Int32)) j2 := ev30.trans (by rw [nI_clamp (by omega)])
                      refine lv_if_ne (tgt := 148) (pc := 125) hx hb dX12_judge_125 rfl (fun c31 => ?_) (fun c31 => ?_)
                      · refine lv_iinc (v := nI (j2 + 1)) (lv' := [(4, .int (nI (j2 + 1))), (5, .int (nI (40 * i + j2))), (3, .int x3_2), (2, .int (nI (j1 + 1))), (0, .ref h0), (1, .int (nI i))]) (pc := 148) hx hb dX12_judge_148 hl (k := 1) rfl (nI_add j2 1) (by decide) rfl (fun ls hl => ?_)
                        refine lv_goto (tgt := 13) (pc := 151) hx hb dX12_judge_151 rfl ?_
                        have hW : WD g A s _ _ [(h0, .inr (12, vs)), (b6, .inl (g.2.1 1, 11, .inl rP)), (b7, .inl (g.2.1 1, 11, .inl rL)), (b12, .inl (g.2.1 1, 132, .inl rA)), (b13, .inl (g.2.1 1, 132, .inl rB)), (b14, .inl (g.2.1 1, 132, .inl rF)), (b15, .inl (g.2.1 1, 132, .inl rT)), (b16, .inl (g.2.1 1, 132, .inl rW)), (b17, .inl (g.2.1 3, 132, .inl rO)), (b21, .inl (g.2.1 1, 12, .inl pO)), (b22, .inl (g.2.1 1, 12, .inl pC)), (b23, .inl (g.2.1 1, 480, .inl pH)), (b24, .inl (g.2.1 1, 480, .inl pK)), (b25, .inl (g.2.1 1, 480, .inl pA)), (b26, .inl (g.2.1 1, 480, .inl pB)), (b28, .inl (g.2.1 1, 40, .inl (upd fb28_2 j2 (3 : Int32)))), (b29, .inl (g.2.1 1, 40, .inl (upd fb29_2 j2 (F_X12_reaches rA rB rF rT rW rO pH pK pB lc pe v9 (40 * i + j2) (tN (pA (40 * i + j2)))))))] := hW.pick [3, 4, 5, 6, 7, 8, 9, 10, 11, 12, 0, 13, 14, 15, 16, 1, 2] rfl rfl
                        exact ih2 (j2 + 1) x3_2 (upd fb28_2 j2 (3 : Int32)) (upd fb29_2 j2 (F_X12_reaches rA rB rF rT rW rO pH pK pB lc pe v9 (40 * i + j2) (tN (pA (40 * i + j2))))) (by omega) (by omega) (by rw [L2_X12_judge, ← hst2]; exact (show L2_X12_judges rA rB rF rT rW rO pH pK pA pB lc pe i v9 j1 j2 x3_2 fb28_2 fb29_2 = (x3_2, (upd fb28_2 j2 (3 : Int32)), (upd fb29_2 j2 (F_X12_reaches rA rB rF rT rW rO pH pK pB lc pe v9 (40 * i + j2) (tN (pA (40 * i + j2)))))) from by rw [L2_X12_judges, if_pos c11, if_neg c15, if_neg c18, if_neg c21, if_neg c31]).symm) _ _ _ hW (lv_sub hl [0, 2, 3, 4, 5] rfl)
                      · refine lv_iload_n (pc := 128) hx hb dX12_judge_128 rfl (lv_at hl 2 rfl) ?_
                        refine lv_aload_n (pc := 129) hx hb dX12_judge_129 rfl (lv_at hl 4 rfl) ?_
                        refine r_get X hW 3 ciX12 29 rfl (by decide) m_1260 rfl h29_ dX12_judge_130 ?_
                        refine lv_iload (pc := 133) hx hb dX12_judge_133 (lv_at hl 1 rfl) ?_
                        refine r_iald X hW 2 rfl (vp_in_nI (by omega) (by decide)) dX12_judge_135 ?_
                        refine lv_topi (fun v34 ev34 => ?_)
                        obtain rfl : v34 = (upd fb29_2 j2 (F_X12_reaches rA rB rF rT rW rO pH pK pB lc pe v9 (40 * i + j2) (tN (pA (40 * i + j2))))) j2 := ev34.trans (by rw [nI_clamp (by omega)])
                        refine lv_iconst (v := 1) (pc := 136) hx hb dX12_judge_136 (by decide) ?_
                        refine lv_aload_n (pc := 137) hx hb dX12_judge_137 rfl (lv_at hl 4 rfl) ?_
                        refine r_get X hW 3 ciX12 25 rfl (by decide) m_1256 rfl h25_ dX12_judge_138 ?_
                        refine lv_iload (pc := 141) hx hb dX12_judge_141 (lv_at hl 0 rfl) ?_
                        refine r_iald X hW 15 rfl (vp_in_nI (by omega) (by decide)) dX12_judge_143 ?_
                        refine lv_topi (fun v35 ev35 => ?_)
                        obtain rfl : v35 = pA (40 * i + j2) := ev35.trans (by rw [nI_clamp (by omega)])
                        refine lv_ishl (pc := 144) hx hb dX12_judge_144 ?_
                        refine lv_ior (pc := 145) hx hb dX12_judge_145 ?_
                        refine lv_ior (pc := 146) hx hb dX12_judge_146 ?_
                        refine lv_istore_n (lv' := [(3, .int (x3_2 ||| (((upd fb29_2 j2 (F_X12_reaches rA rB rF rT rW rO pH pK pB lc pe v9 (40 * i + j2) (tN (pA (40 * i + j2))))) j2) ||| ((1 : Int32) <<< ((pA (40 * i + j2)) &&& 31))))), (5, .int (nI (40 * i + j2))), (4, .int (nI j2)), (2, .int (nI (j1 + 1))), (0, .ref h0), (1, .int (nI i))]) (pc := 147) hx hb dX12_judge_147 rfl hl (by decide) rfl (fun ls hl => ?_)
                        refine lv_iinc (v := nI (j2 + 1)) (lv' := [(4, .int (nI (j2 + 1))), (3, .int (x3_2 ||| (((upd fb29_2 j2 (F_X12_reaches rA rB rF rT rW rO pH pK pB lc pe v9 (40 * i + j2) (tN (pA (40 * i + j2))))) j2) ||| ((1 : Int32) <<< ((pA (40 * i + j2)) &&& 31))))), (5, .int (nI (40 * i + j2))), (2, .int (nI (j1 + 1))), (0, .ref h0), (1, .int (nI i))]) (pc := 148) hx hb dX12_judge_148 hl (k := 2) rfl (nI_add j2 1) (by decide) rfl (fun ls hl => ?_)
                        refine lv_goto (tgt := 13) (pc := 151) hx hb dX12_judge_151 rfl ?_
                        have hW : WD g A s _ _ [(h0, .inr (12, vs)), (b6, .inl (g.2.1 1, 11, .inl rP)), (b7, .inl (g.2.1 1, 11, .inl rL)), (b12, .inl (g.2.1 1, 132, .inl rA)), (b13, .inl (g.2.1 1, 132, .inl rB)), (b14, .inl (g.2.1 1, 132, .inl rF)), (b15, .inl (g.2.1 1, 132, .inl rT)), (b16, .inl (g.2.1 1, 132, .inl rW)), (b17, .inl (g.2.1 3, 132, .inl rO)), (b21, .inl (g.2.1 1, 12, .inl pO)), (b22, .inl (g.2.1 1, 12, .inl pC)), (b23, .inl (g.2.1 1, 480, .inl pH)), (b24, .inl (g.2.1 1, 480, .inl pK)), (b25, .inl (g.2.1 1, 480, .inl pA)), (b26, .inl (g.2.1 1, 480, .inl pB)), (b28, .inl (g.2.1 1, 40, .inl (upd fb28_2 j2 (3 : Int32)))), (b29, .inl (g.2.1 1, 40, .inl (upd fb29_2 j2 (F_X12_reaches rA rB rF rT rW rO pH pK pB lc pe v9 (40 * i + j2) (tN (pA (40 * i + j2)))))))] := hW.pick [3, 4, 5, 6, 7, 8, 9, 10, 11, 12, 0, 13, 14, 15, 16, 1, 2] rfl rfl
                        exact ih2 (j2 + 1) (x3_2 ||| (((upd fb29_2 j2 (F_X12_reaches rA rB rF rT rW rO pH pK pB lc pe v9 (40 * i + j2) (tN (pA (40 * i + j2))))) j2) ||| ((1 : Int32) <<< ((pA (40 * i + j2)) &&& 31)))) (upd fb28_2 j2 (3 : Int32)) (upd fb29_2 j2 (F_X12_reaches rA rB rF rT rW rO pH pK pB lc pe v9 (40 * i + j2) (tN (pA (40 * i + j2))))) (by omega) (by omega) (by rw [L2_X12_judge, ← hst2]; exact (show L2_X12_judges rA rB rF rT rW rO pH pK pA pB lc pe i v9 j1 j2 x3_2 fb28_2 fb29_2 = (x3_2 ||| (((upd fb29_2 j2 (F_X12_reaches rA rB rF rT rW rO pH pK pB lc pe v9 (40 * i + j2) (tN (pA (40 * i + j2))))) j2) ||| ((1 : Int32) <<< ((pA (40 * i + j2)) &&& 31))), (upd fb28_2 j2 (3 : Int32)), (upd fb29_2 j2 (F_X12_reaches rA rB rF rT rW rO pH pK pB lc pe v9 (40 * i + j2) (tN (pA (40 * i + j2)))))) from by rw [L2_X12_judges, if_pos c11, if_neg c15, if_neg c18, if_neg c21, if_pos c31]).symm) _ _ _ hW (lv_sub hl [0, 1, 3, 4, 5] rfl)
                  · refine lv_iconst (v := 2) (pc := 96) hx hb dX12_judge_96 (by decide) ?_
                    refine lv_goto (tgt := 117) (pc := 97) hx hb dX12_judge_97 rfl ?_
                    refine r_iast (ws' := [(b22, .inl (g.2.1 1, 12, .inl pC)), (b28, .inl (g.2.1 1, 40, .inl (upd fb28_2 j2 (2 : Int32)))), (b29, .inl (g.2.1 1, 40, .inl (upd fb29_2 j2 (F_X12_reaches rA rB rF rT rW rO pH pK pB lc pe v9 (40 * i + j2) (tN (pA (40 * i + j2))))))), (h0, .inr (12, vs)), (b6, .inl (g.2.1 1, 11, .inl rP)), (b7, .inl (g.2.1 1, 11, .inl rL)), (b12, .inl (g.2.1 1, 132, .inl rA)), (b13, .inl (g.2.1 1, 132, .inl rB)), (b14, .inl (g.2.1 1, 132, .inl rF)), (b15, .inl (g.2.1 1, 132, .inl rT)), (b16, .inl (g.2.1 1, 132, .inl rW)), (b17, .inl (g.2.1 3, 132, .inl rO)), (b21, .inl (g.2.1 1, 12, .inl pO)), (b23, .inl (g.2.1 1, 480, .inl pH)), (b24, .inl (g.2.1 1, 480, .inl pK)), (b25, .inl (g.2.1 1, 480, .inl pA)), (b26, .inl (g.2.1 1, 480, .inl pB))]) X hW 1 rfl (vp_in_nI (by omega) (by decide)) (f' := (upd fb28_2 j2 (2 : Int32))) (by rw [nI_clamp (by omega)]) rfl dX12_judge_117 (fun H locs hW => ?_)
                    refine lv_aload_n (pc := 118) hx hb dX12_judge_118 rfl (lv_at hl 4 rfl) ?_
                    refine r_get X hW 3 ciX12 28 rfl (by decide) m_1259 rfl h28_ dX12_judge_119 ?_
                    refine lv_iload (pc := 122) hx hb dX12_judge_122 (lv_at hl 1 rfl) ?_
                    refine r_iald X hW 1 rfl (vp_in_nI (by omega) (by decide)) dX12_judge_124 ?_
                    refine lv_topi (fun v37 ev37 => ?_)
                    obtain rfl : v37 = (upd fb28_2 j2 (2 : Int32)) j2 := ev37.trans (by rw [nI_clamp (by omega)])
                    refine lv_if_ne (tgt := 148) (pc := 125) hx hb dX12_judge_125 rfl (fun c38 => ?_) (fun c38 => ?_)
                    · refine lv_iinc (v := nI (j2 + 1)) (lv' := [(4, .int (nI (j2 + 1))), (5, .int (nI (40 * i + j2))), (3, .int x3_2), (2, .int (nI (j1 + 1))), (0, .ref h0), (1, .int (nI i))]) (pc := 148) hx hb dX12_judge_148 hl (k := 1) rfl (nI_add j2 1) (by decide) rfl (fun ls hl => ?_)
                      refine lv_goto (tgt := 13) (pc := 151) hx hb dX12_judge_151 rfl ?_
                      have hW : WD g A s _ _ [(h0, .inr (12, vs)), (b6, .inl (g.2.1 1, 11, .inl rP)), (b7, .inl (g.2.1 1, 11, .inl rL)), (b12, .inl (g.2.1 1, 132, .inl rA)), (b13, .inl (g.2.1 1, 132, .inl rB)), (b14, .inl (g.2.1 1, 132, .inl rF)), (b15, .inl (g.2.1 1, 132, .inl rT)), (b16, .inl (g.2.1 1, 132, .inl rW)), (b17, .inl (g.2.1 3, 132, .inl rO)), (b21, .inl (g.2.1 1, 12, .inl pO)), (b22, .inl (g.2.1 1, 12, .inl pC)), (b23, .inl (g.2.1 1, 480, .inl pH)), (b24, .inl (g.2.1 1, 480, .inl pK)), (b25, .inl (g.2.1 1, 480, .inl pA)), (b26, .inl (g.2.1 1, 480, .inl pB)), (b28, .inl (g.2.1 1, 40, .inl (upd fb28_2 j2 (2 : Int32)))), (b29, .inl (g.2.1 1, 40, .inl (upd fb29_2 j2 (F_X12_reaches rA rB rF rT rW rO pH pK pB lc pe v9 (40 * i + j2) (tN (pA (40 * i + j2)))))))] := hW.pick [3, 4, 5, 6, 7, 8, 9, 10, 11, 12, 0, 13, 14, 15, 16, 1, 2] rfl rfl
                      exact ih2 (j2 + 1) x3_2 (upd fb28_2 j2 (2 : Int32)) (upd fb29_2 j2 (F_X12_reaches rA rB rF rT rW rO pH pK pB lc pe v9 (40 * i + j2) (tN (pA (40 * i + j2))))) (by omega) (by omega) (by rw [L2_X12_judge, ← hst2]; exact (show L2_X12_judges rA rB rF rT rW rO pH pK pA pB lc pe i v9 j1 j2 x3_2 fb28_2 fb29_2 = (x3_2, (upd fb28_2 j2 (2 : Int32)), (upd fb29_2 j2 (F_X12_reaches rA rB rF rT rW rO pH pK pB lc pe v9 (40 * i + j2) (tN (pA (40 * i + j2)))))) from by rw [L2_X12_judges, if_pos c11, if_neg c15, if_pos c18, if_neg c38]).symm) _ _ _ hW (lv_sub hl [0, 2, 3, 4, 5] rfl)
                    · refine lv_iload_n (pc := 128) hx hb dX12_judge_128 rfl (lv_at hl 2 rfl) ?_
                      refine lv_aload_n (pc := 129) hx hb dX12_judge_129 rfl (lv_at hl 4 rfl) ?_
                      refine r_get X hW 3 ciX12 29 rfl (by decide) m_1260 rfl h29_ dX12_judge_130 ?_
                      refine lv_iload (pc := 133) hx hb dX12_judge_133 (lv_at hl 1 rfl) ?_
                      refine r_iald X hW 2 rfl (vp_in_nI (by omega) (by decide)) dX12_judge_135 ?_
                      refine lv_topi (fun v41 ev41 => ?_)
                      obtain rfl : v41 = (upd fb29_2 j2 (F_X12_reaches rA rB rF rT rW rO pH pK pB lc pe v9 (40 * i + j2) (tN (pA (40 * i + j2))))) j2 := ev41.trans (by rw [nI_clamp (by omega)])
                      refine lv_iconst (v := 1) (pc := 136) hx hb dX12_judge_136 (by decide) ?_
                      refine lv_aload_n (pc := 137) hx hb dX12_judge_137 rfl (lv_at hl 4 rfl) ?_
                      refine r_get X hW 3 ciX12 25 rfl (by decide) m_1256 rfl h25_ dX12_judge_138 ?_
                      refine lv_iload (pc := 141) hx hb dX12_judge_141 (lv_at hl 0 rfl) ?_
                      refine r_iald X hW 15 rfl (vp_in_nI (by omega) (by decide)) dX12_judge_143 ?_
                      refine lv_topi (fun v42 ev42 => ?_)
                      obtain rfl : v42 = pA (40 * i + j2) := ev42.trans (by rw [nI_clamp (by omega)])
                      refine lv_ishl (pc := 144) hx hb dX12_judge_144 ?_
                      refine lv_ior (pc := 145) hx hb dX12_judge_145 ?_
                      refine lv_ior (pc := 146) hx hb dX12_judge_146 ?_
                      refine lv_istore_n (lv' := [(3, .int (x3_2 ||| (((upd fb29_2 j2 (F_X12_reaches rA rB rF rT rW rO pH pK pB lc pe v9 (40 * i + j2) (tN (pA (40 * i + j2))))) j2) ||| ((1 : Int32) <<< ((pA (40 * i + j2)) &&& 31))))), (5, .int (nI (40 * i + j2))), (4, .int (nI j2)), (2, .int (nI (j1 + 1))), (0, .ref h0), (1, .int (nI i))]) (pc := 147) hx hb dX12_judge_147 rfl hl (by decide) rfl (fun ls hl => ?_)
                      refine lv_iinc (v := nI (j2 + 1)) (lv' := [(4, .int (nI (j2 + 1))), (3, .int (x3_2 ||| (((upd fb29_2 j2 (F_X12_reaches rA rB rF rT rW rO pH pK pB lc pe v9 (40 * i + j2) (tN (pA (40 * i + j2))))) j2) ||| ((1 : Int32) <<< ((pA (40 * i + j2)) &&& 31))))), (5, .int (nI (40 * i + j2))), (2, .int (nI (j1 + 1))), (0, .ref h0), (1, .int (nI i))]) (pc := 148) hx hb dX12_judge_148 hl (k := 2) rfl (nI_add j2 1) (by decide) rfl (fun ls hl => ?_)
                      refine lv_goto (tgt := 13) (pc := 151) hx hb dX12_judge_151 rfl ?_
                      have hW : WD g A s _ _ [(h0, .inr (12, vs)), (b6, .inl (g.2.1 1, 11, .inl rP)), (b7, .inl (g.2.1 1, 11, .inl rL)), (b12, .inl (g.2.1 1, 132, .inl rA)), (b13, .inl (g.2.1 1, 132, .inl rB)), (b14, .inl (g.2.1 1, 132, .inl rF)), (b15, .inl (g.2.1 1, 132, .inl rT)), (b16, .inl (g.2.1 1, 132, .inl rW)), (b17, .inl (g.2.1 3, 132, .inl rO)), (b21, .inl (g.2.1 1, 12, .inl pO)), (b22, .inl (g.2.1 1, 12, .inl pC)), (b23, .inl (g.2.1 1, 480, .inl pH)), (b24, .inl (g.2.1 1, 480, .inl pK)), (b25, .inl (g.2.1 1, 480, .inl pA)), (b26, .inl (g.2.1 1, 480, .inl pB)), (b28, .inl (g.2.1 1, 40, .inl (upd fb28_2 j2 (2 : Int32)))), (b29, .inl (g.2.1 1, 40, .inl (upd fb29_2 j2 (F_X12_reaches rA rB rF rT rW rO pH pK pB lc pe v9 (40 * i + j2) (tN (pA (40 * i + j2)))))))] := hW.pick [3, 4, 5, 6, 7, 8, 9, 10, 11, 12, 0, 13, 14, 15, 16, 1, 2] rfl rfl
                      exact ih2 (j2 + 1) (x3_2 ||| (((upd fb29_2 j2 (F_X12_reaches rA rB rF rT rW rO pH pK pB lc pe v9 (40 * i + j2) (tN (pA (40 * i + j2))))) j2) ||| ((1 : Int32) <<< ((pA (40 * i + j2)) &&& 31)))) (upd fb28_2 j2 (2 : Int32)) (upd fb29_2 j2 (F_X12_reaches rA rB rF rT rW rO pH pK pB lc pe v9 (40 * i + j2) (tN (pA (40 * i + j2))))) (by omega) (by omega) (by rw [L2_X12_judge, ← hst2]; exact (show L2_X12_judges rA rB rF rT rW rO pH pK pA pB lc pe i v9 j1 j2 x3_2 fb28_2 fb29_2 = (x3_2 ||| (((upd fb29_2 j2 (F_X12_reaches rA rB rF rT rW rO pH pK pB lc pe v9 (40 * i + j2) (tN (pA (40 * i + j2))))) j2) ||| ((1 : Int32) <<< ((pA (40 * i + j2)) &&& 31))), (upd fb28_2 j2 (2 : Int32)), (upd fb29_2 j2 (F_X12_reaches rA rB rF rT rW rO pH pK pB lc pe v9 (40 * i + j2) (tN (pA (40 * i + j2)))))) from by rw [L2_X12_judges, if_pos c11, if_neg c15, if_pos c18, if_pos c38]).symm) _ _ _ hW (lv_sub hl [0, 1, 3, 4, 5] rfl)
                · refine lv_iconst (v := 1) (pc := 77) hx hb dX12_judge_77 (by decide) ?_
                  refine lv_goto (tgt := 117) (pc := 78) hx hb dX12_judge_78 rfl ?_
                  refine r_iast (ws' := [(b22, .inl (g.2.1 1, 12, .inl pC)), (b28, .inl (g.2.1 1, 40, .inl (upd fb28_2 j2 (1 : Int32)))), (b29, .inl (g.2.1 1, 40, .inl (upd fb29_2 j2 (F_X12_reaches rA rB rF rT rW rO pH pK pB lc pe v9 (40 * i + j2) (tN (pA (40 * i + j2))))))), (h0, .inr (12, vs)), (b6, .inl (g.2.1 1, 11, .inl rP)), (b7, .inl (g.2.1 1, 11, .inl rL)), (b12, .inl (g.2.1 1, 132, .inl rA)), (b13, .inl (g.2.1 1, 132, .inl rB)), (b14, .inl (g.2.1 1, 132, .inl rF)), (b15, .inl (g.2.1 1, 132, .inl rT)), (b16, .inl (g.2.1 1, 132, .inl rW)), (b17, .inl (g.2.1 3, 132, .inl rO)), (b21, .inl (g.2.1 1, 12, .inl pO)), (b23, .inl (g.2.1 1, 480, .inl pH)), (b24, .inl (g.2.1 1, 480, .inl pK)), (b25, .inl (g.2.1 1, 480, .inl pA)), (b26, .inl (g.2.1 1, 480, .inl pB))]) X hW 1 rfl (vp_in_nI (by omega) (by decide)) (f' := (upd fb28_2 j2 (1 : Int32))) (by rw [nI_clamp (by omega)]) rfl dX12_judge_117 (fun H locs hW => ?_)
                  refine lv_aload_n (pc := 118) hx hb dX12_judge_118 rfl (lv_at hl 4 rfl) ?_
                  refine r_get X hW 3 ciX12 28 rfl (by decide) m_1259 rfl h28_ dX12_judge_119 ?_
                  refine lv_iload (pc := 122) hx hb dX12_judge_122 (lv_at hl 1 rfl) ?_
                  refine r_iald X hW 1 rfl (vp_in_nI (by omega) (by decide)) dX12_judge_124 ?_
                  refine lv_topi (fun v44 ev44 => ?_)
                  obtain rfl : v44 = (upd fb28_2 j2 (1 : Int32)) j2 := ev44.trans (by rw [nI_clamp (by omega)])
                  refine lv_if_ne (tgt := 148) (pc := 125) hx hb dX12_judge_125 rfl (fun c45 => ?_) (fun c45 => ?_)
                  · refine lv_iinc (v := nI (j2 + 1)) (lv' := [(4, .int (nI (j2 + 1))), (5, .int (nI (40 * i + j2))), (3, .int x3_2), (2, .int (nI (j1 + 1))), (0, .ref h0), (1, .int (nI i))]) (pc := 148) hx hb dX12_judge_148 hl (k := 1) rfl (nI_add j2 1) (by decide) rfl (fun ls hl => ?_)
                    refine lv_goto (tgt := 13) (pc := 151) hx hb dX12_judge_151 rfl ?_
                    have hW : WD g A s _ _ [(h0, .inr (12, vs)), (b6, .inl (g.2.1 1, 11, .inl rP)), (b7, .inl (g.2.1 1, 11, .inl rL)), (b12, .inl (g.2.1 1, 132, .inl rA)), (b13, .inl (g.2.1 1, 132, .inl rB)), (b14, .inl (g.2.1 1, 132, .inl rF)), (b15, .inl (g.2.1 1, 132, .inl rT)), (b16, .inl (g.2.1 1, 132, .inl rW)), (b17, .inl (g.2.1 3, 132, .inl rO)), (b21, .inl (g.2.1 1, 12, .inl pO)), (b22, .inl (g.2.1 1, 12, .inl pC)), (b23, .inl (g.2.1 1, 480, .inl pH)), (b24, .inl (g.2.1 1, 480, .inl pK)), (b25, .inl (g.2.1 1, 480, .inl pA)), (b26, .inl (g.2.1 1, 480, .inl pB)), (b28, .inl (g.2.1 1, 40, .inl (upd fb28_2 j2 (1 : Int32)))), (b29, .inl (g.2.1 1, 40, .inl (upd fb29_2 j2 (F_X12_reaches rA rB rF rT rW rO pH pK pB lc pe v9 (40 * i + j2) (tN (pA (40 * i + j2)))))))] := hW.pick [3, 4, 5, 6, 7, 8, 9, 10, 11, 12, 0, 13, 14, 15, 16, 1, 2] rfl rfl
                    exact ih2 (j2 + 1) x3_2 (upd fb28_2 j2 (1 : Int32)) (upd fb29_2 j2 (F_X12_reaches rA rB rF rT rW rO pH pK pB lc pe v9 (40 * i + j2) (tN (pA (40 * i + j2))))) (by omega) (by omega) (by rw [L2_X12_judge, ← hst2]; exact (show L2_X12_judges rA rB rF rT rW rO pH pK pA pB lc pe i v9 j1 j2 x3_2 fb28_2 fb29_2 = (x3_2, (upd fb28_2 j2 (1 : Int32)), (upd fb29_2 j2 (F_X12_reaches rA rB rF rT rW rO pH pK pB lc pe v9 (40 * i + j2) (tN (pA (40 * i + j2)))))) from by rw [L2_X12_judges, if_pos c11, if_pos c15, if_neg c45]).symm) _ _ _ hW (lv_sub hl [0, 2, 3, 4, 5] rfl)
                  · refine lv_iload_n (pc := 128) hx hb dX12_judge_128 rfl (lv_at hl 2 rfl) ?_
                    refine lv_aload_n (pc := 129) hx hb dX12_judge_129 rfl (lv_at hl 4 rfl) ?_
                    refine r_get X hW 3 ciX12 29 rfl (by decide) m_1260 rfl h29_ dX12_judge_130 ?_
                    refine lv_iload (pc := 133) hx hb dX12_judge_133 (lv_at hl 1 rfl) ?_
                    refine r_iald X hW 2 rfl (vp_in_nI (by omega) (by decide)) dX12_judge_135 ?_
                    refine lv_topi (fun v48 ev48 => ?_)
                    obtain rfl : v48 = (upd fb29_2 j2 (F_X12_reaches rA rB rF rT rW rO pH pK pB lc pe v9 (40 * i + j2) (tN (pA (40 * i + j2))))) j2 := ev48.trans (by rw [nI_clamp (by omega)])
                    refine lv_iconst (v := 1) (pc := 136) hx hb dX12_judge_136 (by decide) ?_
                    refine lv_aload_n (pc := 137) hx hb dX12_judge_137 rfl (lv_at hl 4 rfl) ?_
                    refine r_get X hW 3 ciX12 25 rfl (by decide) m_1256 rfl h25_ dX12_judge_138 ?_
                    refine lv_iload (pc := 141) hx hb dX12_judge_141 (lv_at hl 0 rfl) ?_
                    refine r_iald X hW 15 rfl (vp_in_nI (by omega) (by decide)) dX12_judge_143 ?_
                    refine lv_topi (fun v49 ev49 => ?_)
                    obtain rfl : v49 = pA (40 * i + j2) := ev49.trans (by rw [nI_clamp (by omega)])
                    refine lv_ishl (pc := 144) hx hb dX12_judge_144 ?_
                    refine lv_ior (pc := 145) hx hb dX12_judge_145 ?_
                    refine lv_ior (pc := 146) hx hb dX12_judge_146 ?_
                    refine lv_istore_n (lv' := [(3, .int (x3_2 ||| (((upd fb29_2 j2 (F_X12_reaches rA rB rF rT rW rO pH pK pB lc pe v9 (40 * i + j2) (tN (pA (40 * i + j2))))) j2) ||| ((1 : Int32) <<< ((pA (40 * i + j2)) &&& 31))))), (5, .int (nI (40 * i + j2))), (4, .int (nI j2)), (2, .int (nI (j1 + 1))), (0, .ref h0), (1, .int (nI i))]) (pc := 147) hx hb dX12_judge_147 rfl hl (by decide) rfl (fun ls hl => ?_)
                    refine lv_iinc (v := nI (j2 + 1)) (lv' := [(4, .int (nI (j2 + 1))), (3, .int (x3_2 ||| (((upd fb29_2 j2 (F_X12_reaches rA rB rF rT rW rO pH pK pB lc pe v9 (40 * i + j2) (tN (pA (40 * i + j2))))) j2) ||| ((1 : Int32) <<< ((pA (40 * i + j2)) &&& 31))))), (5, .int (nI (40 * i + j2))), (2, .int (nI (j1 + 1))), (0, .ref h0), (1, .int (nI i))]) (pc := 148) hx hb dX12_judge_148 hl (k := 2) rfl (nI_add j2 1) (by decide) rfl (fun ls hl => ?_)
                    refine lv_goto (tgt := 13) (pc := 151) hx hb dX12_judge_151 rfl ?_
                    have hW : WD g A s _ _ [(h0, .inr (12, vs)), (b6, .inl (g.2.1 1, 11, .inl rP)), (b7, .inl (g.2.1 1, 11, .inl rL)), (b12, .inl (g.2.1 1, 132, .inl rA)), (b13, .inl (g.2.1 1, 132, .inl rB)), (b14, .inl (g.2.1 1, 132, .inl rF)), (b15, .inl (g.2.1 1, 132, .inl rT)), (b16, .inl (g.2.1 1, 132, .inl rW)), (b17, .inl (g.2.1 3, 132, .inl rO)), (b21, .inl (g.2.1 1, 12, .inl pO)), (b22, .inl (g.2.1 1, 12, .inl pC)), (b23, .inl (g.2.1 1, 480, .inl pH)), (b24, .inl (g.2.1 1, 480, .inl pK)), (b25, .inl (g.2.1 1, 480, .inl pA)), (b26, .inl (g.2.1 1, 480, .inl pB)), (b28, .inl (g.2.1 1, 40, .inl (upd fb28_2 j2 (1 : Int32)))), (b29, .inl (g.2.1 1, 40, .inl (upd fb29_2 j2 (F_X12_reaches rA rB rF rT rW rO pH pK pB lc pe v9 (40 * i + j2) (tN (pA (40 * i + j2)))))))] := hW.pick [3, 4, 5, 6, 7, 8, 9, 10, 11, 12, 0, 13, 14, 15, 16, 1, 2] rfl rfl
                    exact ih2 (j2 + 1) (x3_2 ||| (((upd fb29_2 j2 (F_X12_reaches rA rB rF rT rW rO pH pK pB lc pe v9 (40 * i + j2) (tN (pA (40 * i + j2))))) j2) ||| ((1 : Int32) <<< ((pA (40 * i + j2)) &&& 31)))) (upd fb28_2 j2 (1 : Int32)) (upd fb29_2 j2 (F_X12_reaches rA rB rF rT rW rO pH pK pB lc pe v9 (40 * i + j2) (tN (pA (40 * i + j2))))) (by omega) (by omega) (by rw [L2_X12_judge, ← hst2]; exact (show L2_X12_judges rA rB rF rT rW rO pH pK pA pB lc pe i v9 j1 j2 x3_2 fb28_2 fb29_2 = (x3_2 ||| (((upd fb29_2 j2 (F_X12_reaches rA rB rF rT rW rO pH pK pB lc pe v9 (40 * i + j2) (tN (pA (40 * i + j2))))) j2) ||| ((1 : Int32) <<< ((pA (40 * i + j2)) &&& 31))), (upd fb28_2 j2 (1 : Int32)), (upd fb29_2 j2 (F_X12_reaches rA rB rF rT rW rO pH pK pB lc pe v9 (40 * i + j2) (tN (pA (40 * i + j2)))))) from by rw [L2_X12_judges, if_pos c11, if_pos c15, if_pos c45]).symm) _ _ _ hW (lv_sub hl [0, 1, 3, 4, 5] rfl)
              · refine lv_goto (tgt := 148) (pc := 44) hx hb dX12_judge_44 rfl ?_
                refine lv_iinc (v := nI (j2 + 1)) (lv' := [(4, .int (nI (j2 + 1))), (5, .int (nI (40 * i + j2))), (3, .int x3_2), (2, .int (nI (j1 + 1))), (0, .ref h0), (1, .int (nI i))]) (pc := 148) hx hb dX12_judge_148 hl (k := 1) rfl (nI_add j2 1) (by decide) rfl (fun ls hl => ?_)
                refine lv_goto (tgt := 13) (pc := 151) hx hb dX12_judge_151 rfl ?_
                exact ih2 (j2 + 1) x3_2 fb28_2 fb29_2 (by omega) (by omega) (by rw [L2_X12_judge, ← hst2]; exact (show L2_X12_judges rA rB rF rT rW rO pH pK pA pB lc pe i v9 j1 j2 x3_2 fb28_2 fb29_2 = (x3_2, fb28_2, fb29_2) from by rw [L2_X12_judges, if_neg c11]).symm) _ _ _ hW (lv_sub hl [0, 2, 3, 4, 5] rfl)
        exact loop2 (cn + 1) 0 (0 : Int32) fb28_1 fb29_1 (by omega) (by omega) rfl _ _ _ hW (lv_sub hl [0, 1, 2, 3, 4] rfl)
  exact loop1 (24 + 1) 0 pW pR (by omega) (by omega) rfl _ _ _ hW (lv_sub hl [0, 1, 2] rfl)

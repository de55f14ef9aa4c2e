theorem m_433 : (Cond.code yJ7_fill_53178 prog_22_method_103_code 4 (Option.none : Option Jvm.ClassFile.FieldType)) ∈ BW := bw (tb2 193 rfl) (by decide +kernel)
theorem dJ7_fill_53178_0 : decode cJ7_fill_53178 0 = .ok (.iconst 0, 1) := DJ7_fill_53178 _ _ _ rfl
theorem dJ7_fill_53178_1 : decode cJ7_fill_53178 1 = .ok (.istore_n 2, 1) := DJ7_fill_53178 _ _ _ rfl
theorem dJ7_fill_53178_2 : decode cJ7_fill_53178 2 = .ok (.aload_n 0, 1) := DJ7_fill_53178 _ _ _ rfl
theorem dJ7_fill_53178_3 : decode cJ7_fill_53178 3 = .ok (.arraylength, 1) := DJ7_fill_53178 _ _ _ rfl
theorem dJ7_fill_53178_4 : decode cJ7_fill_53178 4 = .ok (.istore_n 3, 1) := DJ7_fill_53178 _ _ _ rfl
theorem dJ7_fill_53178_5 : decode cJ7_fill_53178 5 = .ok (.iload_n 2, 1) := DJ7_fill_53178 _ _ _ rfl
theorem dJ7_fill_53178_6 : decode cJ7_fill_53178 6 = .ok (.iload_n 3, 1) := DJ7_fill_53178 _ _ _ rfl
theorem dJ7_fill_53178_7 : decode cJ7_fill_53178 7 = .ok (.if_icmp .ge 13, 3) := DJ7_fill_53178 _ _ _ rfl
theorem dJ7_fill_53178_20 : decode cJ7_fill_53178 20 = .ok (.return_, 1) := DJ7_fill_53178 _ _ _ rfl
theorem dJ7_fill_53178_10 : decode cJ7_fill_53178 10 = .ok (.aload_n 0, 1) := DJ7_fill_53178 _ _ _ rfl
theorem dJ7_fill_53178_11 : decode cJ7_fill_53178 11 = .ok (.iload_n 2, 1) := DJ7_fill_53178 _ _ _ rfl
theorem dJ7_fill_53178_12 : decode cJ7_fill_53178 12 = .ok (.iload_n 1, 1) := DJ7_fill_53178 _ _ _ rfl
theorem dJ7_fill_53178_13 : decode cJ7_fill_53178 13 = .ok (.iastore, 1) := DJ7_fill_53178 _ _ _ rfl
theorem dJ7_fill_53178_14 : decode cJ7_fill_53178 14 = .ok (.iinc 2 1, 3) := DJ7_fill_53178 _ _ _ rfl
theorem dJ7_fill_53178_17 : decode cJ7_fill_53178 17 = .ok (.goto (-12), 3) := DJ7_fill_53178 _ _ _ rfl
theorem m_430 : (Cond.code yX10_forget prog_12_method_2_code 1 (Option.none : Option Jvm.ClassFile.FieldType)) ∈ BW := bw (tb2 190 rfl) (by decide +kernel)
theorem dX10_forget_0 : decode cX10_forget 0 = .ok (.aload_n 0, 1) := DX10_forget _ _ _ rfl
theorem dX10_forget_1 : decode cX10_forget 1 = .ok (.iconst 0, 1) := DX10_forget _ _ _ rfl
theorem m_272 : (Cond.fieldLink "NoonValley$Valley" 54 "NoonValley$Valley" "people" "I") ∈ BW := bw (tb2 32 (by decide +kernel)) (by decide +kernel)
theorem dX10_forget_2 : decode cX10_forget 2 = .ok (.putfield 54, 3) := DX10_forget _ _ _ rfl
theorem dX10_forget_5 : decode cX10_forget 5 = .ok (.aload_n 0, 1) := DX10_forget _ _ _ rfl
theorem dX10_forget_6 : decode cX10_forget 6 = .ok (.iconst 0, 1) := DX10_forget _ _ _ rfl
theorem m_280 : (Cond.fieldLink "NoonValley$Valley" 57 "NoonValley$Valley" "lineCount" "I") ∈ BW := bw (tb2 40 (by decide +kernel)) (by decide +kernel)
theorem dX10_forget_7 : decode cX10_forget 7 = .ok (.putfield 57, 3) := DX10_forget _ _ _ rfl
theorem dX10_forget_10 : decode cX10_forget 10 = .ok (.aload_n 0, 1) := DX10_forget _ _ _ rfl
theorem dX10_forget_11 : decode cX10_forget 11 = .ok (.iconst 0, 1) := DX10_forget _ _ _ rfl
theorem m_285 : (Cond.fieldLink "NoonValley$Valley" 60 "NoonValley$Valley" "deaf" "I") ∈ BW := bw (tb2 45 (by decide +kernel)) (by decide +kernel)
theorem dX10_forget_12 : decode cX10_forget 12 = .ok (.putfield 60, 3) := DX10_forget _ _ _ rfl
theorem dX10_forget_15 : decode cX10_forget 15 = .ok (.aload_n 0, 1) := DX10_forget _ _ _ rfl
theorem dX10_forget_16 : decode cX10_forget 16 = .ok (.getfield 9, 3) := DX10_forget _ _ _ rfl
theorem dX10_forget_19 : decode cX10_forget 19 = .ok (.iconst 0, 1) := DX10_forget _ _ _ rfl
theorem m_431 : (Cond.methodLink "NoonValley$Valley" 63 yJ7_fill_53178) ∈ BW := bw (tb2 191 (by decide +kernel)) (by decide +kernel)
theorem m_13 : (Cond.initialized "java/util/Arrays") ∈ BW := bw (tb1 13 (by decide +kernel)) (by decide +kernel)
theorem m_432 : (Cond.static yJ7_fill_53178) ∈ BW := bw (tb2 192 (by decide +kernel)) (by decide +kernel)
theorem vX10_63 : LST RX10 63 yJ7_fill_53178 cJ7_fill_53178 4 none 2 := ⟨m_431, m_432, m_13, m_433, by decide, by decide, by decide +kernel⟩
theorem dX10_forget_20 : decode cX10_forget 20 = .ok (.invokestatic 63, 3) := DX10_forget _ _ _ rfl
theorem dX10_forget_23 : decode cX10_forget 23 = .ok (.aload_n 0, 1) := DX10_forget _ _ _ rfl
theorem dX10_forget_24 : decode cX10_forget 24 = .ok (.getfield 15, 3) := DX10_forget _ _ _ rfl
theorem dX10_forget_27 : decode cX10_forget 27 = .ok (.iconst 0, 1) := DX10_forget _ _ _ rfl
theorem dX10_forget_28 : decode cX10_forget 28 = .ok (.invokestatic 63, 3) := DX10_forget _ _ _ rfl
theorem dX10_forget_31 : decode cX10_forget 31 = .ok (.aload_n 0, 1) := DX10_forget _ _ _ rfl
theorem dX10_forget_32 : decode cX10_forget 32 = .ok (.getfield 18, 3) := DX10_forget _ _ _ rfl
theorem dX10_forget_35 : decode cX10_forget 35 = .ok (.iconst 0, 1) := DX10_forget _ _ _ rfl
theorem dX10_forget_36 : decode cX10_forget 36 = .ok (.invokestatic 63, 3) := DX10_forget _ _ _ rfl
theorem dX10_forget_39 : decode cX10_forget 39 = .ok (.return_, 1) := DX10_forget _ _ _ rfl
theorem m_441 : (Cond.code yX8_at prog_10_method_4_code 2 (Option.some FieldType.int)) ∈ BW := bw (tb2 201 rfl) (by decide +kernel)
theorem dX8_at_0 : decode cX8_at 0 = .ok (.iload_n 1, 1) := DX8_at _ _ _ rfl
theorem dX8_at_1 : decode cX8_at 1 = .ok (.ifCond .lt 11, 3) := DX8_at _ _ _ rfl
theorem dX8_at_4 : decode cX8_at 4 = .ok (.iload_n 1, 1) := DX8_at _ _ _ rfl
theorem dX8_at_5 : decode cX8_at 5 = .ok (.aload_n 0, 1) := DX8_at _ _ _ rfl
theorem dX8_at_6 : decode cX8_at 6 = .ok (.getfield 19, 3) := DX8_at _ _ _ rfl
theorem dX8_at_9 : decode cX8_at 9 = .ok (.if_icmp .lt 7, 3) := DX8_at _ _ _ rfl
theorem dX8_at_12 : decode cX8_at 12 = .ok (.iconst (-1), 1) := DX8_at _ _ _ rfl
theorem dX8_at_13 : decode cX8_at 13 = .ok (.goto 9, 3) := DX8_at _ _ _ rfl
theorem dX8_at_22 : decode cX8_at 22 = .ok (.ireturn, 1) := DX8_at _ _ _ rfl
theorem m_437 : (Cond.code yX8_skipBlanks prog_10_method_8_code 1 (Option.none : Option Jvm.ClassFile.FieldType)) ∈ BW := bw (tb2 197 rfl) (by decide +kernel)
theorem dX8_skipBlanks_0 : decode cX8_skipBlanks 0 = .ok (.aload_n 0, 1) := DX8_skipBlanks _ _ _ rfl
theorem m_39 : (Cond.fieldLink "NoonValley$Tape" 27 "NoonValley$Tape" "place" "I") ∈ BW := bw (tb1 39 (by decide +kernel)) (by decide +kernel)
theorem dX8_skipBlanks_1 : decode cX8_skipBlanks 1 = .ok (.getfield 27, 3) := DX8_skipBlanks _ _ _ rfl
theorem dX8_skipBlanks_4 : decode cX8_skipBlanks 4 = .ok (.aload_n 0, 1) := DX8_skipBlanks _ _ _ rfl
theorem dX8_skipBlanks_5 : decode cX8_skipBlanks 5 = .ok (.getfield 19, 3) := DX8_skipBlanks _ _ _ rfl
theorem dX8_skipBlanks_8 : decode cX8_skipBlanks 8 = .ok (.if_icmp .ge 29, 3) := DX8_skipBlanks _ _ _ rfl
theorem dX8_skipBlanks_37 : decode cX8_skipBlanks 37 = .ok (.return_, 1) := DX8_skipBlanks _ _ _ rfl
theorem m_426 : (Cond.code yX8_read prog_10_method_7_code 2 (Option.some FieldType.int)) ∈ BW := bw (tb2 186 rfl) (by decide +kernel)
theorem dX8_read_0 : decode cX8_read 0 = .ok (.aload_n 0, 1) := DX8_read _ _ _ rfl
theorem dX8_read_1 : decode cX8_read 1 = .ok (.iconst 0, 1) := DX8_read _ _ _ rfl
theorem dX8_read_2 : decode cX8_read 2 = .ok (.putfield 27, 3) := DX8_read _ _ _ rfl
theorem dX8_read_5 : decode cX8_read 5 = .ok (.aload_n 1, 1) := DX8_read _ _ _ rfl
theorem m_427 : (Cond.methodLink "NoonValley$Tape" 30 yX10_forget) ∈ BW := bw (tb2 187 (by decide +kernel)) (by decide +kernel)
theorem m_428 : (Cond.instanceMethod yX10_forget) ∈ BW := bw (tb2 188 (by decide +kernel)) (by decide +kernel)
theorem m_429 : (Cond.selects "NoonValley$Valley" yX10_forget yX10_forget) ∈ BW := bw (tb2 189 (by decide +kernel)) (by decide +kernel)
theorem vX8_30 : LV RX8 30 RX10 yX10_forget cX10_forget 1 none 0 := ⟨m_427, m_428, m_429, m_11, m_430, rfl, by decide, by decide, by decide +kernel⟩
theorem dX8_read_6 : decode cX8_read 6 = .ok (.invokevirtual 30, 3) := DX8_read _ _ _ rfl
theorem dX8_read_9 : decode cX8_read 9 = .ok (.aload_n 0, 1) := DX8_read _ _ _ rfl
theorem m_434 : (Cond.methodLink "NoonValley$Tape" 35 yX8_skipBlanks) ∈ BW := bw (tb2 194 (by decide +kernel)) (by decide +kernel)
theorem m_436 : (Cond.instanceMethod yX8_skipBlanks) ∈ BW := bw (tb2 196 (by decide +kernel)) (by decide +kernel)
theorem s_1_1 : (Cond.selects RX8 yX8_skipBlanks yX8_skipBlanks) ∈ BW := bw (sl1 (y := yX8_skipBlanks) (n := 3) 1 (by decide +kernel)) (by decide +kernel)
theorem vX8_35 : LV RX8 35 RX8 yX8_skipBlanks cX8_skipBlanks 1 none 0 := ⟨m_434, m_436, s_1_1, m_2, m_437, rfl, by decide, by decide, by decide +kernel⟩
theorem dX8_read_10 : decode cX8_read 10 = .ok (.invokevirtual 35, 3) := DX8_read _ _ _ rfl
theorem dX8_read_13 : decode cX8_read 13 = .ok (.aload_n 0, 1) := DX8_read _ _ _ rfl
theorem dX8_read_14 : decode cX8_read 14 = .ok (.aload_n 0, 1) := DX8_read _ _ _ rfl
theorem dX8_read_15 : decode cX8_read 15 = .ok (.getfield 27, 3) := DX8_read _ _ _ rfl
theorem m_438 : (Cond.methodLink "NoonValley$Tape" 38 yX8_at) ∈ BW := bw (tb2 198 (by decide +kernel)) (by decide +kernel)
theorem m_440 : (Cond.instanceMethod yX8_at) ∈ BW := bw (tb2 200 (by decide +kernel)) (by decide +kernel)
theorem s_1_2 : (Cond.selects RX8 yX8_at yX8_at) ∈ BW := bw (sl1 (y := yX8_at) (n := 3) 2 (by decide +kernel)) (by decide +kernel)
theorem vX8_38 : LV RX8 38 RX8 yX8_at cX8_at 2 (some .int) 1 := ⟨m_438, m_440, s_1_2, m_2, m_441, rfl, by decide, by decide, by decide +kernel⟩
theorem dX8_read_18 : decode cX8_read 18 = .ok (.invokevirtual 38, 3) := DX8_read _ _ _ rfl
theorem dX8_read_21 : decode cX8_read 21 = .ok (.bipush 112, 2) := DX8_read _ _ _ rfl
theorem dX8_read_23 : decode cX8_read 23 = .ok (.if_icmp .eq 8, 3) := DX8_read _ _ _ rfl
theorem dX8_read_26 : decode cX8_read 26 = .ok (.aload_n 0, 1) := DX8_read _ _ _ rfl
theorem dX8_read_27 : decode cX8_read 27 = .ok (.getfield 27, 3) := DX8_read _ _ _ rfl
theorem dX8_read_30 : decode cX8_read 30 = .ok (.ireturn, 1) := DX8_read _ _ _ rfl
theorem m_422 : (Cond.code yX11_fault prog_1_method_4_code 1 (Option.some FieldType.int)) ∈ BW := bw (tb2 182 rfl) (by decide +kernel)
theorem m_423 : (Cond.methodLink "NoonValley" 90 yX8_read) ∈ BW := bw (tb2 183 (by decide +kernel)) (by decide +kernel)
theorem m_424 : (Cond.instanceMethod yX8_read) ∈ BW := bw (tb2 184 (by decide +kernel)) (by decide +kernel)
theorem m_425 : (Cond.selects "NoonValley$Tape" yX8_read yX8_read) ∈ BW := bw (tb2 185 (by decide +kernel)) (by decide +kernel)
theorem vX11_90 : LV RX11 90 RX8 yX8_read cX8_read 2 (some .int) 1 := ⟨m_423, m_424, m_425, m_2, m_426, rfl, by decide, by decide, by decide +kernel⟩
theorem m_478 : (Cond.code yX11_valley prog_1_method_5_code 1 (Option.some FieldType.int)) ∈ BW := bw (tb2 238 rfl) (by decide +kernel)
theorem dX11_valley_0 : decode cX11_valley 0 = .ok (.aload_n 0, 1) := DX11_valley _ _ _ rfl
theorem dX11_valley_1 : decode cX11_valley 1 = .ok (.getfield 94, 3) := DX11_valley _ _ _ rfl
theorem dX11_valley_4 : decode cX11_valley 4 = .ok (.bipush 10, 2) := DX11_valley _ _ _ rfl
theorem dX11_valley_6 : decode cX11_valley 6 = .ok (.if_icmp .ge 18, 3) := DX11_valley _ _ _ rfl
theorem dX11_valley_9 : decode cX11_valley 9 = .ok (.aload_n 0, 1) := DX11_valley _ _ _ rfl
theorem dX11_valley_10 : decode cX11_valley 10 = .ok (.getfield 10, 3) := DX11_valley _ _ _ rfl
theorem dX11_valley_13 : decode cX11_valley 13 = .ok (.aload_n 0, 1) := DX11_valley _ _ _ rfl
theorem dX11_valley_14 : decode cX11_valley 14 = .ok (.getfield 78, 3) := DX11_valley _ _ _ rfl
theorem dX11_valley_17 : decode cX11_valley 17 = .ok (.invokevirtual 90, 3) := DX11_valley _ _ _ rfl
theorem dX11_valley_20 : decode cX11_valley 20 = .ok (.iconst (-1), 1) := DX11_valley _ _ _ rfl
theorem dX11_valley_21 : decode cX11_valley 21 = .ok (.if_icmp .eq 5, 3) := DX11_valley _ _ _ rfl
theorem dX11_valley_24 : decode cX11_valley 24 = .ok (.iconst (-1), 1) := DX11_valley _ _ _ rfl
theorem dX11_valley_25 : decode cX11_valley 25 = .ok (.ireturn, 1) := DX11_valley _ _ _ rfl
theorem m_1451 : (Cond.code yX12_here prog_14_method_8_code 1 (Option.some FieldType.int)) ∈ BW := bw (tb7 11 rfl) (by decide +kernel)
theorem dX12_here_0 : decode cX12_here 0 = .ok (.aload_n 0, 1) := DX12_here _ _ _ rfl
theorem m_1234 : (Cond.fieldLink "NoonValleyModel" 174 "NoonValleyModel" "at" "I") ∈ BW := bw (tb6 34 (by decide +kernel)) (by decide +kernel)
theorem dX12_here_1 : decode cX12_here 1 = .ok (.getfield 174, 3) := DX12_here _ _ _ rfl
theorem dX12_here_4 : decode cX12_here 4 = .ok (.aload_n 0, 1) := DX12_here _ _ _ rfl
theorem dX12_here_5 : decode cX12_here 5 = .ok (.getfield 163, 3) := DX12_here _ _ _ rfl
theorem dX12_here_8 : decode cX12_here 8 = .ok (.if_icmp .ge 19, 3) := DX12_here _ _ _ rfl
theorem dX12_here_27 : decode cX12_here 27 = .ok (.iconst (-1), 1) := DX12_here _ _ _ rfl
theorem dX12_here_28 : decode cX12_here 28 = .ok (.ireturn, 1) := DX12_here _ _ _ rfl
theorem m_1447 : (Cond.code yX12_look prog_14_method_9_code 1 (Option.some FieldType.int)) ∈ BW := bw (tb7 7 rfl) (by decide +kernel)
theorem dX12_look_0 : decode cX12_look 0 = .ok (.aload_n 0, 1) := DX12_look _ _ _ rfl
theorem m_1448 : (Cond.methodLink "NoonValleyModel" 177 yX12_here) ∈ BW := bw (tb7 8 (by decide +kernel)) (by decide +kernel)
theorem m_1450 : (Cond.instanceMethod yX12_here) ∈ BW := bw (tb7 10 (by decide +kernel)) (by decide +kernel)
theorem s_4_6 : (Cond.selects RX12 yX12_here yX12_here) ∈ BW := bw (sl4 (y := yX12_here) (n := 64) 6 (by decide +kernel)) (by decide +kernel)
theorem vX12_177 : LV RX12 177 RX12 yX12_here cX12_here 1 (some .int) 0 := ⟨m_1448, m_1450, s_4_6, m_12, m_1451, rfl, by decide, by decide, by decide +kernel⟩
theorem dX12_look_1 : decode cX12_look 1 = .ok (.invokevirtual 177, 3) := DX12_look _ _ _ rfl
theorem dX12_look_4 : decode cX12_look 4 = .ok (.bipush 32, 2) := DX12_look _ _ _ rfl
theorem dX12_look_6 : decode cX12_look 6 = .ok (.if_icmp .ne 16, 3) := DX12_look _ _ _ rfl
theorem dX12_look_22 : decode cX12_look 22 = .ok (.aload_n 0, 1) := DX12_look _ _ _ rfl
theorem dX12_look_23 : decode cX12_look 23 = .ok (.invokevirtual 177, 3) := DX12_look _ _ _ rfl
theorem dX12_look_26 : decode cX12_look 26 = .ok (.ireturn, 1) := DX12_look _ _ _ rfl
theorem m_1455 : (Cond.code yX12_fails prog_14_method_10_code 2 (Option.some FieldType.boolean)) ∈ BW := bw (tb7 15 rfl) (by decide +kernel)
theorem dX12_fails_0 : decode cX12_fails 0 = .ok (.aload_n 0, 1) := DX12_fails _ _ _ rfl
theorem m_1235 : (Cond.fieldLink "NoonValleyModel" 181 "NoonValleyModel" "fault" "I") ∈ BW := bw (tb6 35 (by decide +kernel)) (by decide +kernel)
theorem dX12_fails_1 : decode cX12_fails 1 = .ok (.getfield 181, 3) := DX12_fails _ _ _ rfl
theorem dX12_fails_4 : decode cX12_fails 4 = .ok (.iconst (-1), 1) := DX12_fails _ _ _ rfl
theorem dX12_fails_5 : decode cX12_fails 5 = .ok (.if_icmp .ne 8, 3) := DX12_fails _ _ _ rfl
theorem dX12_fails_8 : decode cX12_fails 8 = .ok (.aload_n 0, 1) := DX12_fails _ _ _ rfl
theorem dX12_fails_9 : decode cX12_fails 9 = .ok (.iload_n 1, 1) := DX12_fails _ _ _ rfl
theorem dX12_fails_10 : decode cX12_fails 10 = .ok (.putfield 181, 3) := DX12_fails _ _ _ rfl
theorem dX12_fails_13 : decode cX12_fails 13 = .ok (.iconst 0, 1) := DX12_fails _ _ _ rfl
theorem dX12_fails_14 : decode cX12_fails 14 = .ok (.ireturn, 1) := DX12_fails _ _ _ rfl
theorem m_1443 : (Cond.code yX12_readValley prog_14_method_16_code 3 (Option.some FieldType.boolean)) ∈ BW := bw (tb7 3 rfl) (by decide +kernel)
theorem dX12_readValley_0 : decode cX12_readValley 0 = .ok (.aload_n 0, 1) := DX12_readValley _ _ _ rfl
theorem dX12_readValley_1 : decode cX12_readValley 1 = .ok (.getfield 212, 3) := DX12_readValley _ _ _ rfl
theorem dX12_readValley_4 : decode cX12_readValley 4 = .ok (.istore_n 1, 1) := DX12_readValley _ _ _ rfl
theorem dX12_readValley_5 : decode cX12_readValley 5 = .ok (.aload_n 0, 1) := DX12_readValley _ _ _ rfl
theorem dX12_readValley_6 : decode cX12_readValley 6 = .ok (.iconst 0, 1) := DX12_readValley _ _ _ rfl
theorem dX12_readValley_7 : decode cX12_readValley 7 = .ok (.putfield 174, 3) := DX12_readValley _ _ _ rfl
theorem dX12_readValley_10 : decode cX12_readValley 10 = .ok (.aload_n 0, 1) := DX12_readValley _ _ _ rfl
theorem dX12_readValley_11 : decode cX12_readValley 11 = .ok (.iconst (-1), 1) := DX12_readValley _ _ _ rfl
theorem dX12_readValley_12 : decode cX12_readValley 12 = .ok (.putfield 181, 3) := DX12_readValley _ _ _ rfl
theorem dX12_readValley_15 : decode cX12_readValley 15 = .ok (.aload_n 0, 1) := DX12_readValley _ _ _ rfl
theorem dX12_readValley_16 : decode cX12_readValley 16 = .ok (.getfield 17, 3) := DX12_readValley _ _ _ rfl
theorem dX12_readValley_19 : decode cX12_readValley 19 = .ok (.iload_n 1, 1) := DX12_readValley _ _ _ rfl
theorem dX12_readValley_20 : decode cX12_readValley 20 = .ok (.iconst 0, 1) := DX12_readValley _ _ _ rfl
theorem dX12_readValley_21 : decode cX12_readValley 21 = .ok (.iastore, 1) := DX12_readValley _ _ _ rfl
theorem dX12_readValley_22 : decode cX12_readValley 22 = .ok (.aload_n 0, 1) := DX12_readValley _ _ _ rfl
theorem dX12_readValley_23 : decode cX12_readValley 23 = .ok (.getfield 20, 3) := DX12_readValley _ _ _ rfl
theorem dX12_readValley_26 : decode cX12_readValley 26 = .ok (.iload_n 1, 1) := DX12_readValley _ _ _ rfl
theorem dX12_readValley_27 : decode cX12_readValley 27 = .ok (.iconst 0, 1) := DX12_readValley _ _ _ rfl
theorem dX12_readValley_28 : decode cX12_readValley 28 = .ok (.iastore, 1) := DX12_readValley _ _ _ rfl
theorem dX12_readValley_29 : decode cX12_readValley 29 = .ok (.iconst 0, 1) := DX12_readValley _ _ _ rfl
theorem dX12_readValley_30 : decode cX12_readValley 30 = .ok (.istore_n 2, 1) := DX12_readValley _ _ _ rfl
theorem dX12_readValley_31 : decode cX12_readValley 31 = .ok (.iload_n 2, 1) := DX12_readValley _ _ _ rfl
theorem dX12_readValley_32 : decode cX12_readValley 32 = .ok (.iconst 4, 1) := DX12_readValley _ _ _ rfl
theorem dX12_readValley_33 : decode cX12_readValley 33 = .ok (.if_icmp .ge 42, 3) := DX12_readValley _ _ _ rfl
theorem dX12_readValley_36 : decode cX12_readValley 36 = .ok (.aload_n 0, 1) := DX12_readValley _ _ _ rfl
theorem dX12_readValley_37 : decode cX12_readValley 37 = .ok (.getfield 23, 3) := DX12_readValley _ _ _ rfl
theorem dX12_readValley_40 : decode cX12_readValley 40 = .ok (.iconst 4, 1) := DX12_readValley _ _ _ rfl
theorem dX12_readValley_41 : decode cX12_readValley 41 = .ok (.iload_n 1, 1) := DX12_readValley _ _ _ rfl
theorem dX12_readValley_42 : decode cX12_readValley 42 = .ok (.imul, 1) := DX12_readValley _ _ _ rfl
theorem dX12_readValley_43 : decode cX12_readValley 43 = .ok (.iload_n 2, 1) := DX12_readValley _ _ _ rfl
theorem dX12_readValley_44 : decode cX12_readValley 44 = .ok (.iadd, 1) := DX12_readValley _ _ _ rfl
theorem dX12_readValley_45 : decode cX12_readValley 45 = .ok (.iconst 0, 1) := DX12_readValley _ _ _ rfl
theorem dX12_readValley_46 : decode cX12_readValley 46 = .ok (.iastore, 1) := DX12_readValley _ _ _ rfl
theorem dX12_readValley_47 : decode cX12_readValley 47 = .ok (.aload_n 0, 1) := DX12_readValley _ _ _ rfl
theorem dX12_readValley_48 : decode cX12_readValley 48 = .ok (.getfield 26, 3) := DX12_readValley _ _ _ rfl
theorem dX12_readValley_51 : decode cX12_readValley 51 = .ok (.iconst 4, 1) := DX12_readValley _ _ _ rfl
theorem dX12_readValley_52 : decode cX12_readValley 52 = .ok (.iload_n 1, 1) := DX12_readValley _ _ _ rfl
theorem dX12_readValley_53 : decode cX12_readValley 53 = .ok (.imul, 1) := DX12_readValley _ _ _ rfl
theorem dX12_readValley_54 : decode cX12_readValley 54 = .ok (.iload_n 2, 1) := DX12_readValley _ _ _ rfl
theorem dX12_readValley_55 : decode cX12_readValley 55 = .ok (.iadd, 1) := DX12_readValley _ _ _ rfl
theorem dX12_readValley_56 : decode cX12_readValley 56 = .ok (.iconst 0, 1) := DX12_readValley _ _ _ rfl
theorem dX12_readValley_57 : decode cX12_readValley 57 = .ok (.iastore, 1) := DX12_readValley _ _ _ rfl
theorem dX12_readValley_58 : decode cX12_readValley 58 = .ok (.aload_n 0, 1) := DX12_readValley _ _ _ rfl
theorem dX12_readValley_59 : decode cX12_readValley 59 = .ok (.getfield 29, 3) := DX12_readValley _ _ _ rfl
theorem dX12_readValley_62 : decode cX12_readValley 62 = .ok (.iconst 4, 1) := DX12_readValley _ _ _ rfl
theorem dX12_readValley_63 : decode cX12_readValley 63 = .ok (.iload_n 1, 1) := DX12_readValley _ _ _ rfl
theorem dX12_readValley_64 : decode cX12_readValley 64 = .ok (.imul, 1) := DX12_readValley _ _ _ rfl
theorem dX12_readValley_65 : decode cX12_readValley 65 = .ok (.iload_n 2, 1) := DX12_readValley _ _ _ rfl
theorem dX12_readValley_66 : decode cX12_readValley 66 = .ok (.iadd, 1) := DX12_readValley _ _ _ rfl
theorem dX12_readValley_67 : decode cX12_readValley 67 = .ok (.iconst 0, 1) := DX12_readValley _ _ _ rfl
theorem dX12_readValley_68 : decode cX12_readValley 68 = .ok (.iastore, 1) := DX12_readValley _ _ _ rfl
theorem dX12_readValley_69 : decode cX12_readValley 69 = .ok (.iinc 2 1, 3) := DX12_readValley _ _ _ rfl
theorem dX12_readValley_72 : decode cX12_readValley 72 = .ok (.goto (-41), 3) := DX12_readValley _ _ _ rfl
theorem dX12_readValley_75 : decode cX12_readValley 75 = .ok (.aload_n 0, 1) := DX12_readValley _ _ _ rfl
theorem m_1444 : (Cond.methodLink "NoonValleyModel" 188 yX12_look) ∈ BW := bw (tb7 4 (by decide +kernel)) (by decide +kernel)
theorem m_1446 : (Cond.instanceMethod yX12_look) ∈ BW := bw (tb7 6 (by decide +kernel)) (by decide +kernel)
theorem s_4_5 : (Cond.selects RX12 yX12_look yX12_look) ∈ BW := bw (sl4 (y := yX12_look) (n := 64) 5 (by decide +kernel)) (by decide +kernel)
theorem vX12_188 : LV RX12 188 RX12 yX12_look cX12_look 1 (some .int) 0 := ⟨m_1444, m_1446, s_4_5, m_12, m_1447, rfl, by decide, by decide, by decide +kernel⟩
theorem dX12_readValley_76 : decode cX12_readValley 76 = .ok (.invokevirtual 188, 3) := DX12_readValley _ _ _ rfl
theorem dX12_readValley_79 : decode cX12_readValley 79 = .ok (.bipush 112, 2) := DX12_readValley _ _ _ rfl
theorem dX12_readValley_81 : decode cX12_readValley 81 = .ok (.if_icmp .eq 12, 3) := DX12_readValley _ _ _ rfl
theorem dX12_readValley_84 : decode cX12_readValley 84 = .ok (.aload_n 0, 1) := DX12_readValley _ _ _ rfl
theorem dX12_readValley_85 : decode cX12_readValley 85 = .ok (.aload_n 0, 1) := DX12_readValley _ _ _ rfl
theorem dX12_readValley_86 : decode cX12_readValley 86 = .ok (.getfield 174, 3) := DX12_readValley _ _ _ rfl
theorem m_1452 : (Cond.methodLink "NoonValleyModel" 184 yX12_fails) ∈ BW := bw (tb7 12 (by decide +kernel)) (by decide +kernel)
theorem m_1454 : (Cond.instanceMethod yX12_fails) ∈ BW := bw (tb7 14 (by decide +kernel)) (by decide +kernel)
theorem s_4_7 : (Cond.selects RX12 yX12_fails yX12_fails) ∈ BW := bw (sl4 (y := yX12_fails) (n := 64) 7 (by decide +kernel)) (by decide +kernel)
theorem vX12_184 : LV RX12 184 RX12 yX12_fails cX12_fails 2 (some .boolean) 1 := ⟨m_1452, m_1454, s_4_7, m_12, m_1455, rfl, by decide, by decide, by decide +kernel⟩
theorem dX12_readValley_89 : decode cX12_readValley 89 = .ok (.invokevirtual 184, 3) := DX12_readValley _ _ _ rfl
theorem dX12_readValley_92 : decode cX12_readValley 92 = .ok (.ireturn, 1) := DX12_readValley _ _ _ rfl
theorem m_1439 : (Cond.code yX12_fault prog_14_method_17_code 2 (Option.some FieldType.int)) ∈ BW := bw (tb6 239 rfl) (by decide +kernel)
theorem dX12_fault_0 : decode cX12_fault 0 = .ok (.aload_n 0, 1) := DX12_fault _ _ _ rfl
theorem dX12_fault_1 : decode cX12_fault 1 = .ok (.iconst 0, 1) := DX12_fault _ _ _ rfl
theorem dX12_fault_2 : decode cX12_fault 2 = .ok (.putfield 160, 3) := DX12_fault _ _ _ rfl
theorem dX12_fault_5 : decode cX12_fault 5 = .ok (.aload_n 0, 1) := DX12_fault _ _ _ rfl
theorem m_1440 : (Cond.methodLink "NoonValleyModel" 218 yX12_readValley) ∈ BW := bw (tb7 0 (by decide +kernel)) (by decide +kernel)
theorem m_1442 : (Cond.instanceMethod yX12_readValley) ∈ BW := bw (tb7 2 (by decide +kernel)) (by decide +kernel)
theorem s_4_4 : (Cond.selects RX12 yX12_readValley yX12_readValley) ∈ BW := bw (sl4 (y := yX12_readValley) (n := 64) 4 (by decide +kernel)) (by decide +kernel)
theorem vX12_218 : LV RX12 218 RX12 yX12_readValley cX12_readValley 3 (some .boolean) 0 := ⟨m_1440, m_1442, s_4_4, m_12, m_1443, rfl, by decide, by decide, by decide +kernel⟩
theorem dX12_fault_6 : decode cX12_fault 6 = .ok (.invokevirtual 218, 3) := DX12_fault _ _ _ rfl
theorem dX12_fault_9 : decode cX12_fault 9 = .ok (.istore_n 1, 1) := DX12_fault _ _ _ rfl
theorem dX12_fault_10 : decode cX12_fault 10 = .ok (.aload_n 0, 1) := DX12_fault _ _ _ rfl
theorem dX12_fault_11 : decode cX12_fault 11 = .ok (.getfield 181, 3) := DX12_fault _ _ _ rfl
theorem dX12_fault_14 : decode cX12_fault 14 = .ok (.ireturn, 1) := DX12_fault _ _ _ rfl
theorem m_1482 : (Cond.code yX12_valley prog_14_method_18_code 2 (Option.some FieldType.int)) ∈ BW := bw (tb7 42 rfl) (by decide +kernel)
theorem dX12_valley_0 : decode cX12_valley 0 = .ok (.aload_n 0, 1) := DX12_valley _ _ _ rfl
theorem dX12_valley_1 : decode cX12_valley 1 = .ok (.iconst 0, 1) := DX12_valley _ _ _ rfl
theorem dX12_valley_2 : decode cX12_valley 2 = .ok (.putfield 160, 3) := DX12_valley _ _ _ rfl
theorem dX12_valley_5 : decode cX12_valley 5 = .ok (.aload_n 0, 1) := DX12_valley _ _ _ rfl
theorem dX12_valley_6 : decode cX12_valley 6 = .ok (.getfield 212, 3) := DX12_valley _ _ _ rfl
theorem dX12_valley_9 : decode cX12_valley 9 = .ok (.bipush 10, 2) := DX12_valley _ _ _ rfl
theorem dX12_valley_11 : decode cX12_valley 11 = .ok (.if_icmp .eq 10, 3) := DX12_valley _ _ _ rfl
theorem dX12_valley_14 : decode cX12_valley 14 = .ok (.aload_n 0, 1) := DX12_valley _ _ _ rfl
theorem dX12_valley_15 : decode cX12_valley 15 = .ok (.invokevirtual 218, 3) := DX12_valley _ _ _ rfl
theorem dX12_valley_18 : decode cX12_valley 18 = .ok (.ifCond .ne 5, 3) := DX12_valley _ _ _ rfl
theorem dX12_valley_21 : decode cX12_valley 21 = .ok (.iconst (-1), 1) := DX12_valley _ _ _ rfl
theorem dX12_valley_22 : decode cX12_valley 22 = .ok (.ireturn, 1) := DX12_valley _ _ _ rfl
theorem m_1152 : (Cond.code yX11_count prog_1_method_38_code 2 (Option.some FieldType.int)) ∈ BW := bw (tb5 192 rfl) (by decide +kernel)
theorem m_366 : (Cond.fieldLink "NoonValley" 171 "NoonValley" "callCount" "I") ∈ BW := bw (tb2 126 (by decide +kernel)) (by decide +kernel)
theorem m_38 : (Cond.fieldLinkNest "NoonValley" 325 "NoonValley$Tape" "length" "I" "NoonValley") ∈ NWS := nw (tb1 38 (by decide +kernel)) (by decide +kernel)
theorem m_1801 : (Cond.code yX12_count prog_14_method_97_code 4 (Option.some FieldType.int)) ∈ BW := bw (tb8 121 rfl) (by decide +kernel)

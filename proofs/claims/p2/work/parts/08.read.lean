/-- how many .. of a fresh object: 0 for 0 .. 3 -/
def cv (x : Int32) : Int32 := if 0 ≤ x.toInt ∧ x.toInt ≤ 3 then 0 else (-1)
theorem cv_out {x : Int32} (h : x.toInt < 0 ∨ 3 < x.toInt) : (-1) = cv x := by
  rw [cv, if_neg (by omega)]
theorem tab4 (x : Int32) : x = 0 ∨ x = 1 ∨ x = 2 ∨ x = 3 ∨ (x.toInt < 0 ∨ 3 < x.toInt) := by
  by_cases h : x.toInt < 0 ∨ 3 < x.toInt
  · exact Or.inr (Or.inr (Or.inr (Or.inr h)))
  · have h0 : (0 : Int32).toInt = 0 := by decide
    have h1 : (1 : Int32).toInt = 1 := by decide
    have h2 : (2 : Int32).toInt = 2 := by decide
    have h3 : (3 : Int32).toInt = 3 := by decide
    rw [fa_eq x 0, fa_eq x 1, fa_eq x 2, fa_eq x 3]
    omega
theorem m_433 : (Cond.code yJ7_fill_53178 prog_22_method_103_code 4 (Option.none : Option Jvm.ClassFile.FieldType)) ∈ BW := bw (tb2 193 (by decide +kernel)) (by decide +kernel)
theorem dJ7_fill_53178_0 : decode cJ7_fill_53178 0 = .ok (.iconst 0, 1) := by decide +kernel
theorem dJ7_fill_53178_1 : decode cJ7_fill_53178 1 = .ok (.istore_n 2, 1) := by decide +kernel
theorem dJ7_fill_53178_2 : decode cJ7_fill_53178 2 = .ok (.aload_n 0, 1) := by decide +kernel
theorem dJ7_fill_53178_3 : decode cJ7_fill_53178 3 = .ok (.arraylength, 1) := by decide +kernel
theorem dJ7_fill_53178_4 : decode cJ7_fill_53178 4 = .ok (.istore_n 3, 1) := by decide +kernel
theorem dJ7_fill_53178_5 : decode cJ7_fill_53178 5 = .ok (.iload_n 2, 1) := by decide +kernel
theorem dJ7_fill_53178_6 : decode cJ7_fill_53178 6 = .ok (.iload_n 3, 1) := by decide +kernel
theorem dJ7_fill_53178_7 : decode cJ7_fill_53178 7 = .ok (.if_icmp .ge 13, 3) := by decide +kernel
theorem dJ7_fill_53178_20 : decode cJ7_fill_53178 20 = .ok (.return_, 1) := by decide +kernel
theorem dJ7_fill_53178_10 : decode cJ7_fill_53178 10 = .ok (.aload_n 0, 1) := by decide +kernel
theorem dJ7_fill_53178_11 : decode cJ7_fill_53178 11 = .ok (.iload_n 2, 1) := by decide +kernel
theorem dJ7_fill_53178_12 : decode cJ7_fill_53178 12 = .ok (.iload_n 1, 1) := by decide +kernel
theorem dJ7_fill_53178_13 : decode cJ7_fill_53178 13 = .ok (.iastore, 1) := by decide +kernel
theorem dJ7_fill_53178_14 : decode cJ7_fill_53178 14 = .ok (.iinc 2 1, 3) := by decide +kernel
theorem dJ7_fill_53178_17 : decode cJ7_fill_53178 17 = .ok (.goto (-12), 3) := by decide +kernel
theorem m_430 : (Cond.code yX10_forget prog_12_method_2_code 1 (Option.none : Option Jvm.ClassFile.FieldType)) ∈ BW := bw (tb2 190 (by decide +kernel)) (by decide +kernel)
theorem dX10_forget_0 : decode cX10_forget 0 = .ok (.aload_n 0, 1) := by decide +kernel
theorem dX10_forget_1 : decode cX10_forget 1 = .ok (.iconst 0, 1) := by decide +kernel
theorem m_272 : (Cond.fieldLink "NoonValley$Valley" 54 "NoonValley$Valley" "people" "I") ∈ BW := bw (tb2 32 (by decide +kernel)) (by decide +kernel)
theorem dX10_forget_2 : decode cX10_forget 2 = .ok (.putfield 54, 3) := by decide +kernel
theorem dX10_forget_5 : decode cX10_forget 5 = .ok (.aload_n 0, 1) := by decide +kernel
theorem dX10_forget_6 : decode cX10_forget 6 = .ok (.iconst 0, 1) := by decide +kernel
theorem m_280 : (Cond.fieldLink "NoonValley$Valley" 57 "NoonValley$Valley" "lineCount" "I") ∈ BW := bw (tb2 40 (by decide +kernel)) (by decide +kernel)
theorem dX10_forget_7 : decode cX10_forget 7 = .ok (.putfield 57, 3) := by decide +kernel
theorem dX10_forget_10 : decode cX10_forget 10 = .ok (.aload_n 0, 1) := by decide +kernel
theorem dX10_forget_11 : decode cX10_forget 11 = .ok (.iconst 0, 1) := by decide +kernel
theorem m_285 : (Cond.fieldLink "NoonValley$Valley" 60 "NoonValley$Valley" "deaf" "I") ∈ BW := bw (tb2 45 (by decide +kernel)) (by decide +kernel)
theorem dX10_forget_12 : decode cX10_forget 12 = .ok (.putfield 60, 3) := by decide +kernel
theorem dX10_forget_15 : decode cX10_forget 15 = .ok (.aload_n 0, 1) := by decide +kernel
theorem dX10_forget_16 : decode cX10_forget 16 = .ok (.getfield 9, 3) := by decide +kernel
theorem dX10_forget_19 : decode cX10_forget 19 = .ok (.iconst 0, 1) := by decide +kernel
theorem m_431 : (Cond.methodLink "NoonValley$Valley" 63 yJ7_fill_53178) ∈ BW := bw (tb2 191 (by decide +kernel)) (by decide +kernel)
theorem m_13 : (Cond.initialized "java/util/Arrays") ∈ BW := bw (tb1 13 (by decide +kernel)) (by decide +kernel)
theorem m_432 : (Cond.static yJ7_fill_53178) ∈ BW := bw (tb2 192 (by decide +kernel)) (by decide +kernel)
theorem vX10_63 : LST RX10 63 yJ7_fill_53178 cJ7_fill_53178 4 none 2 := ⟨m_431, m_432, m_13, m_433, by decide, by decide, by decide +kernel⟩
theorem dX10_forget_20 : decode cX10_forget 20 = .ok (.invokestatic 63, 3) := by decide +kernel
theorem dX10_forget_23 : decode cX10_forget 23 = .ok (.aload_n 0, 1) := by decide +kernel
theorem dX10_forget_24 : decode cX10_forget 24 = .ok (.getfield 15, 3) := by decide +kernel
theorem dX10_forget_27 : decode cX10_forget 27 = .ok (.iconst 0, 1) := by decide +kernel
theorem dX10_forget_28 : decode cX10_forget 28 = .ok (.invokestatic 63, 3) := by decide +kernel
theorem dX10_forget_31 : decode cX10_forget 31 = .ok (.aload_n 0, 1) := by decide +kernel
theorem dX10_forget_32 : decode cX10_forget 32 = .ok (.getfield 18, 3) := by decide +kernel
theorem dX10_forget_35 : decode cX10_forget 35 = .ok (.iconst 0, 1) := by decide +kernel
theorem dX10_forget_36 : decode cX10_forget 36 = .ok (.invokestatic 63, 3) := by decide +kernel
theorem dX10_forget_39 : decode cX10_forget 39 = .ok (.return_, 1) := by decide +kernel
theorem m_441 : (Cond.code yX8_at prog_10_method_4_code 2 (Option.some FieldType.int)) ∈ BW := bw (tb2 201 (by decide +kernel)) (by decide +kernel)
theorem dX8_at_0 : decode cX8_at 0 = .ok (.iload_n 1, 1) := by decide +kernel
theorem dX8_at_1 : decode cX8_at 1 = .ok (.ifCond .lt 11, 3) := by decide +kernel
theorem dX8_at_4 : decode cX8_at 4 = .ok (.iload_n 1, 1) := by decide +kernel
theorem dX8_at_5 : decode cX8_at 5 = .ok (.aload_n 0, 1) := by decide +kernel
theorem dX8_at_6 : decode cX8_at 6 = .ok (.getfield 19, 3) := by decide +kernel
theorem dX8_at_9 : decode cX8_at 9 = .ok (.if_icmp .lt 7, 3) := by decide +kernel
theorem dX8_at_12 : decode cX8_at 12 = .ok (.iconst (-1), 1) := by decide +kernel
theorem dX8_at_13 : decode cX8_at 13 = .ok (.goto 9, 3) := by decide +kernel
theorem dX8_at_22 : decode cX8_at 22 = .ok (.ireturn, 1) := by decide +kernel
theorem m_437 : (Cond.code yX8_skipBlanks prog_10_method_8_code 1 (Option.none : Option Jvm.ClassFile.FieldType)) ∈ BW := bw (tb2 197 (by decide +kernel)) (by decide +kernel)
theorem dX8_skipBlanks_0 : decode cX8_skipBlanks 0 = .ok (.aload_n 0, 1) := by decide +kernel
theorem m_39 : (Cond.fieldLink "NoonValley$Tape" 27 "NoonValley$Tape" "place" "I") ∈ BW := bw (tb1 39 (by decide +kernel)) (by decide +kernel)
theorem dX8_skipBlanks_1 : decode cX8_skipBlanks 1 = .ok (.getfield 27, 3) := by decide +kernel
theorem dX8_skipBlanks_4 : decode cX8_skipBlanks 4 = .ok (.aload_n 0, 1) := by decide +kernel
theorem dX8_skipBlanks_5 : decode cX8_skipBlanks 5 = .ok (.getfield 19, 3) := by decide +kernel
theorem dX8_skipBlanks_8 : decode cX8_skipBlanks 8 = .ok (.if_icmp .ge 29, 3) := by decide +kernel
theorem dX8_skipBlanks_37 : decode cX8_skipBlanks 37 = .ok (.return_, 1) := by decide +kernel
theorem m_426 : (Cond.code yX8_read prog_10_method_7_code 2 (Option.some FieldType.int)) ∈ BW := bw (tb2 186 (by decide +kernel)) (by decide +kernel)
theorem dX8_read_0 : decode cX8_read 0 = .ok (.aload_n 0, 1) := by decide +kernel
theorem dX8_read_1 : decode cX8_read 1 = .ok (.iconst 0, 1) := by decide +kernel
theorem dX8_read_2 : decode cX8_read 2 = .ok (.putfield 27, 3) := by decide +kernel
theorem dX8_read_5 : decode cX8_read 5 = .ok (.aload_n 1, 1) := by decide +kernel
theorem m_427 : (Cond.methodLink "NoonValley$Tape" 30 yX10_forget) ∈ BW := bw (tb2 187 (by decide +kernel)) (by decide +kernel)
theorem m_428 : (Cond.instanceMethod yX10_forget) ∈ BW := bw (tb2 188 (by decide +kernel)) (by decide +kernel)
theorem m_429 : (Cond.selects "NoonValley$Valley" yX10_forget yX10_forget) ∈ BW := bw (tb2 189 (by decide +kernel)) (by decide +kernel)
theorem vX8_30 : LV RX8 30 RX10 yX10_forget cX10_forget 1 none 0 := ⟨m_427, m_428, m_429, m_11, m_430, rfl, by decide, by decide, by decide +kernel⟩
theorem dX8_read_6 : decode cX8_read 6 = .ok (.invokevirtual 30, 3) := by decide +kernel
theorem dX8_read_9 : decode cX8_read 9 = .ok (.aload_n 0, 1) := by decide +kernel
theorem m_434 : (Cond.methodLink "NoonValley$Tape" 35 yX8_skipBlanks) ∈ BW := bw (tb2 194 (by decide +kernel)) (by decide +kernel)
theorem m_436 : (Cond.instanceMethod yX8_skipBlanks) ∈ BW := bw (tb2 196 (by decide +kernel)) (by decide +kernel)
theorem s_1_1 : (Cond.selects RX8 yX8_skipBlanks yX8_skipBlanks) ∈ BW := bw (sl1 (y := yX8_skipBlanks) (n := 3) 1 (by decide +kernel)) (by decide +kernel)
theorem vX8_35 : LV RX8 35 RX8 yX8_skipBlanks cX8_skipBlanks 1 none 0 := ⟨m_434, m_436, s_1_1, m_2, m_437, rfl, by decide, by decide, by decide +kernel⟩
theorem dX8_read_10 : decode cX8_read 10 = .ok (.invokevirtual 35, 3) := by decide +kernel
theorem dX8_read_13 : decode cX8_read 13 = .ok (.aload_n 0, 1) := by decide +kernel
theorem dX8_read_14 : decode cX8_read 14 = .ok (.aload_n 0, 1) := by decide +kernel
theorem dX8_read_15 : decode cX8_read 15 = .ok (.getfield 27, 3) := by decide +kernel
theorem m_438 : (Cond.methodLink "NoonValley$Tape" 38 yX8_at) ∈ BW := bw (tb2 198 (by decide +kernel)) (by decide +kernel)
theorem m_440 : (Cond.instanceMethod yX8_at) ∈ BW := bw (tb2 200 (by decide +kernel)) (by decide +kernel)
theorem s_1_2 : (Cond.selects RX8 yX8_at yX8_at) ∈ BW := bw (sl1 (y := yX8_at) (n := 3) 2 (by decide +kernel)) (by decide +kernel)
theorem vX8_38 : LV RX8 38 RX8 yX8_at cX8_at 2 (some .int) 1 := ⟨m_438, m_440, s_1_2, m_2, m_441, rfl, by decide, by decide, by decide +kernel⟩
theorem dX8_read_18 : decode cX8_read 18 = .ok (.invokevirtual 38, 3) := by decide +kernel
theorem dX8_read_21 : decode cX8_read 21 = .ok (.bipush 112, 2) := by decide +kernel
theorem dX8_read_23 : decode cX8_read 23 = .ok (.if_icmp .eq 8, 3) := by decide +kernel
theorem dX8_read_26 : decode cX8_read 26 = .ok (.aload_n 0, 1) := by decide +kernel
theorem dX8_read_27 : decode cX8_read 27 = .ok (.getfield 27, 3) := by decide +kernel
theorem dX8_read_30 : decode cX8_read 30 = .ok (.ireturn, 1) := by decide +kernel
theorem m_422 : (Cond.code yX11_fault prog_1_method_4_code 1 (Option.some FieldType.int)) ∈ BW := bw (tb2 182 (by decide +kernel)) (by decide +kernel)
theorem dX11_fault_0 : decode cX11_fault 0 = .ok (.aload_n 0, 1) := by decide +kernel
theorem dX11_fault_1 : decode cX11_fault 1 = .ok (.getfield 10, 3) := by decide +kernel
theorem dX11_fault_4 : decode cX11_fault 4 = .ok (.aload_n 0, 1) := by decide +kernel
theorem dX11_fault_5 : decode cX11_fault 5 = .ok (.getfield 78, 3) := by decide +kernel
theorem m_423 : (Cond.methodLink "NoonValley" 90 yX8_read) ∈ BW := bw (tb2 183 (by decide +kernel)) (by decide +kernel)
theorem m_424 : (Cond.instanceMethod yX8_read) ∈ BW := bw (tb2 184 (by decide +kernel)) (by decide +kernel)
theorem m_425 : (Cond.selects "NoonValley$Tape" yX8_read yX8_read) ∈ BW := bw (tb2 185 (by decide +kernel)) (by decide +kernel)
theorem vX11_90 : LV RX11 90 RX8 yX8_read cX8_read 2 (some .int) 1 := ⟨m_423, m_424, m_425, m_2, m_426, rfl, by decide, by decide, by decide +kernel⟩
theorem dX11_fault_8 : decode cX11_fault 8 = .ok (.invokevirtual 90, 3) := by decide +kernel
theorem dX11_fault_11 : decode cX11_fault 11 = .ok (.ireturn, 1) := by decide +kernel
theorem m_478 : (Cond.code yX11_valley prog_1_method_5_code 1 (Option.some FieldType.int)) ∈ BW := bw (tb2 238 (by decide +kernel)) (by decide +kernel)
theorem dX11_valley_0 : decode cX11_valley 0 = .ok (.aload_n 0, 1) := by decide +kernel
theorem dX11_valley_1 : decode cX11_valley 1 = .ok (.getfield 94, 3) := by decide +kernel
theorem dX11_valley_4 : decode cX11_valley 4 = .ok (.bipush 10, 2) := by decide +kernel
theorem dX11_valley_6 : decode cX11_valley 6 = .ok (.if_icmp .ge 18, 3) := by decide +kernel
theorem dX11_valley_9 : decode cX11_valley 9 = .ok (.aload_n 0, 1) := by decide +kernel
theorem dX11_valley_10 : decode cX11_valley 10 = .ok (.getfield 10, 3) := by decide +kernel
theorem dX11_valley_13 : decode cX11_valley 13 = .ok (.aload_n 0, 1) := by decide +kernel
theorem dX11_valley_14 : decode cX11_valley 14 = .ok (.getfield 78, 3) := by decide +kernel
theorem dX11_valley_17 : decode cX11_valley 17 = .ok (.invokevirtual 90, 3) := by decide +kernel
theorem dX11_valley_20 : decode cX11_valley 20 = .ok (.iconst (-1), 1) := by decide +kernel
theorem dX11_valley_21 : decode cX11_valley 21 = .ok (.if_icmp .eq 5, 3) := by decide +kernel
theorem dX11_valley_24 : decode cX11_valley 24 = .ok (.iconst (-1), 1) := by decide +kernel
theorem dX11_valley_25 : decode cX11_valley 25 = .ok (.ireturn, 1) := by decide +kernel
theorem m_1451 : (Cond.code yX12_here prog_14_method_8_code 1 (Option.some FieldType.int)) ∈ BW := bw (tb7 11 (by decide +kernel)) (by decide +kernel)
theorem dX12_here_0 : decode cX12_here 0 = .ok (.aload_n 0, 1) := by decide +kernel
theorem m_1234 : (Cond.fieldLink "NoonValleyModel" 174 "NoonValleyModel" "at" "I") ∈ BW := bw (tb6 34 (by decide +kernel)) (by decide +kernel)
theorem dX12_here_1 : decode cX12_here 1 = .ok (.getfield 174, 3) := by decide +kernel
theorem dX12_here_4 : decode cX12_here 4 = .ok (.aload_n 0, 1) := by decide +kernel
theorem dX12_here_5 : decode cX12_here 5 = .ok (.getfield 163, 3) := by decide +kernel
theorem dX12_here_8 : decode cX12_here 8 = .ok (.if_icmp .ge 19, 3) := by decide +kernel
theorem dX12_here_27 : decode cX12_here 27 = .ok (.iconst (-1), 1) := by decide +kernel
theorem dX12_here_28 : decode cX12_here 28 = .ok (.ireturn, 1) := by decide +kernel
theorem m_1447 : (Cond.code yX12_look prog_14_method_9_code 1 (Option.some FieldType.int)) ∈ BW := bw (tb7 7 (by decide +kernel)) (by decide +kernel)
theorem dX12_look_0 : decode cX12_look 0 = .ok (.aload_n 0, 1) := by decide +kernel
theorem m_1448 : (Cond.methodLink "NoonValleyModel" 177 yX12_here) ∈ BW := bw (tb7 8 (by decide +kernel)) (by decide +kernel)
theorem m_1450 : (Cond.instanceMethod yX12_here) ∈ BW := bw (tb7 10 (by decide +kernel)) (by decide +kernel)
theorem s_4_6 : (Cond.selects RX12 yX12_here yX12_here) ∈ BW := bw (sl4 (y := yX12_here) (n := 64) 6 (by decide +kernel)) (by decide +kernel)
theorem vX12_177 : LV RX12 177 RX12 yX12_here cX12_here 1 (some .int) 0 := ⟨m_1448, m_1450, s_4_6, m_12, m_1451, rfl, by decide, by decide, by decide +kernel⟩
theorem dX12_look_1 : decode cX12_look 1 = .ok (.invokevirtual 177, 3) := by decide +kernel
theorem dX12_look_4 : decode cX12_look 4 = .ok (.bipush 32, 2) := by decide +kernel
theorem dX12_look_6 : decode cX12_look 6 = .ok (.if_icmp .ne 16, 3) := by decide +kernel
theorem dX12_look_22 : decode cX12_look 22 = .ok (.aload_n 0, 1) := by decide +kernel
theorem dX12_look_23 : decode cX12_look 23 = .ok (.invokevirtual 177, 3) := by decide +kernel
theorem dX12_look_26 : decode cX12_look 26 = .ok (.ireturn, 1) := by decide +kernel
theorem m_1455 : (Cond.code yX12_fails prog_14_method_10_code 2 (Option.some FieldType.boolean)) ∈ BW := bw (tb7 15 (by decide +kernel)) (by decide +kernel)
theorem dX12_fails_0 : decode cX12_fails 0 = .ok (.aload_n 0, 1) := by decide +kernel
theorem m_1235 : (Cond.fieldLink "NoonValleyModel" 181 "NoonValleyModel" "fault" "I") ∈ BW := bw (tb6 35 (by decide +kernel)) (by decide +kernel)
theorem dX12_fails_1 : decode cX12_fails 1 = .ok (.getfield 181, 3) := by decide +kernel
theorem dX12_fails_4 : decode cX12_fails 4 = .ok (.iconst (-1), 1) := by decide +kernel
theorem dX12_fails_5 : decode cX12_fails 5 = .ok (.if_icmp .ne 8, 3) := by decide +kernel
theorem dX12_fails_8 : decode cX12_fails 8 = .ok (.aload_n 0, 1) := by decide +kernel
theorem dX12_fails_9 : decode cX12_fails 9 = .ok (.iload_n 1, 1) := by decide +kernel
theorem dX12_fails_10 : decode cX12_fails 10 = .ok (.putfield 181, 3) := by decide +kernel
theorem dX12_fails_13 : decode cX12_fails 13 = .ok (.iconst 0, 1) := by decide +kernel
theorem dX12_fails_14 : decode cX12_fails 14 = .ok (.ireturn, 1) := by decide +kernel
theorem m_1443 : (Cond.code yX12_readValley prog_14_method_16_code 3 (Option.some FieldType.boolean)) ∈ BW := bw (tb7 3 (by decide +kernel)) (by decide +kernel)
theorem dX12_readValley_0 : decode cX12_readValley 0 = .ok (.aload_n 0, 1) := by decide +kernel
theorem dX12_readValley_1 : decode cX12_readValley 1 = .ok (.getfield 212, 3) := by decide +kernel
theorem dX12_readValley_4 : decode cX12_readValley 4 = .ok (.istore_n 1, 1) := by decide +kernel
theorem dX12_readValley_5 : decode cX12_readValley 5 = .ok (.aload_n 0, 1) := by decide +kernel
theorem dX12_readValley_6 : decode cX12_readValley 6 = .ok (.iconst 0, 1) := by decide +kernel
theorem dX12_readValley_7 : decode cX12_readValley 7 = .ok (.putfield 174, 3) := by decide +kernel
theorem dX12_readValley_10 : decode cX12_readValley 10 = .ok (.aload_n 0, 1) := by decide +kernel
theorem dX12_readValley_11 : decode cX12_readValley 11 = .ok (.iconst (-1), 1) := by decide +kernel
theorem dX12_readValley_12 : decode cX12_readValley 12 = .ok (.putfield 181, 3) := by decide +kernel
theorem dX12_readValley_15 : decode cX12_readValley 15 = .ok (.aload_n 0, 1) := by decide +kernel
theorem dX12_readValley_16 : decode cX12_readValley 16 = .ok (.getfield 17, 3) := by decide +kernel
theorem dX12_readValley_19 : decode cX12_readValley 19 = .ok (.iload_n 1, 1) := by decide +kernel
theorem dX12_readValley_20 : decode cX12_readValley 20 = .ok (.iconst 0, 1) := by decide +kernel
theorem dX12_readValley_21 : decode cX12_readValley 21 = .ok (.iastore, 1) := by decide +kernel
theorem dX12_readValley_22 : decode cX12_readValley 22 = .ok (.aload_n 0, 1) := by decide +kernel
theorem dX12_readValley_23 : decode cX12_readValley 23 = .ok (.getfield 20, 3) := by decide +kernel
theorem dX12_readValley_26 : decode cX12_readValley 26 = .ok (.iload_n 1, 1) := by decide +kernel
theorem dX12_readValley_27 : decode cX12_readValley 27 = .ok (.iconst 0, 1) := by decide +kernel
theorem dX12_readValley_28 : decode cX12_readValley 28 = .ok (.iastore, 1) := by decide +kernel
theorem dX12_readValley_29 : decode cX12_readValley 29 = .ok (.iconst 0, 1) := by decide +kernel
theorem dX12_readValley_30 : decode cX12_readValley 30 = .ok (.istore_n 2, 1) := by decide +kernel
theorem dX12_readValley_31 : decode cX12_readValley 31 = .ok (.iload_n 2, 1) := by decide +kernel
theorem dX12_readValley_32 : decode cX12_readValley 32 = .ok (.iconst 4, 1) := by decide +kernel
theorem dX12_readValley_33 : decode cX12_readValley 33 = .ok (.if_icmp .ge 42, 3) := by decide +kernel
theorem dX12_readValley_36 : decode cX12_readValley 36 = .ok (.aload_n 0, 1) := by decide +kernel
theorem dX12_readValley_37 : decode cX12_readValley 37 = .ok (.getfield 23, 3) := by decide +kernel
theorem dX12_readValley_40 : decode cX12_readValley 40 = .ok (.iconst 4, 1) := by decide +kernel
theorem dX12_readValley_41 : decode cX12_readValley 41 = .ok (.iload_n 1, 1) := by decide +kernel
theorem dX12_readValley_42 : decode cX12_readValley 42 = .ok (.imul, 1) := by decide +kernel
theorem dX12_readValley_43 : decode cX12_readValley 43 = .ok (.iload_n 2, 1) := by decide +kernel
theorem dX12_readValley_44 : decode cX12_readValley 44 = .ok (.iadd, 1) := by decide +kernel
theorem dX12_readValley_45 : decode cX12_readValley 45 = .ok (.iconst 0, 1) := by decide +kernel
theorem dX12_readValley_46 : decode cX12_readValley 46 = .ok (.iastore, 1) := by decide +kernel
theorem dX12_readValley_47 : decode cX12_readValley 47 = .ok (.aload_n 0, 1) := by decide +kernel
theorem dX12_readValley_48 : decode cX12_readValley 48 = .ok (.getfield 26, 3) := by decide +kernel
theorem dX12_readValley_51 : decode cX12_readValley 51 = .ok (.iconst 4, 1) := by decide +kernel
theorem dX12_readValley_52 : decode cX12_readValley 52 = .ok (.iload_n 1, 1) := by decide +kernel
theorem dX12_readValley_53 : decode cX12_readValley 53 = .ok (.imul, 1) := by decide +kernel
theorem dX12_readValley_54 : decode cX12_readValley 54 = .ok (.iload_n 2, 1) := by decide +kernel
theorem dX12_readValley_55 : decode cX12_readValley 55 = .ok (.iadd, 1) := by decide +kernel
theorem dX12_readValley_56 : decode cX12_readValley 56 = .ok (.iconst 0, 1) := by decide +kernel
theorem dX12_readValley_57 : decode cX12_readValley 57 = .ok (.iastore, 1) := by decide +kernel
theorem dX12_readValley_58 : decode cX12_readValley 58 = .ok (.aload_n 0, 1) := by decide +kernel
theorem dX12_readValley_59 : decode cX12_readValley 59 = .ok (.getfield 29, 3) := by decide +kernel
theorem dX12_readValley_62 : decode cX12_readValley 62 = .ok (.iconst 4, 1) := by decide +kernel
theorem dX12_readValley_63 : decode cX12_readValley 63 = .ok (.iload_n 1, 1) := by decide +kernel
theorem dX12_readValley_64 : decode cX12_readValley 64 = .ok (.imul, 1) := by decide +kernel
theorem dX12_readValley_65 : decode cX12_readValley 65 = .ok (.iload_n 2, 1) := by decide +kernel
theorem dX12_readValley_66 : decode cX12_readValley 66 = .ok (.iadd, 1) := by decide +kernel
theorem dX12_readValley_67 : decode cX12_readValley 67 = .ok (.iconst 0, 1) := by decide +kernel
theorem dX12_readValley_68 : decode cX12_readValley 68 = .ok (.iastore, 1) := by decide +kernel
theorem dX12_readValley_69 : decode cX12_readValley 69 = .ok (.iinc 2 1, 3) := by decide +kernel
theorem dX12_readValley_72 : decode cX12_readValley 72 = .ok (.goto (-41), 3) := by decide +kernel
theorem dX12_readValley_75 : decode cX12_readValley 75 = .ok (.aload_n 0, 1) := by decide +kernel
theorem m_1444 : (Cond.methodLink "NoonValleyModel" 188 yX12_look) ∈ BW := bw (tb7 4 (by decide +kernel)) (by decide +kernel)
theorem m_1446 : (Cond.instanceMethod yX12_look) ∈ BW := bw (tb7 6 (by decide +kernel)) (by decide +kernel)
theorem s_4_5 : (Cond.selects RX12 yX12_look yX12_look) ∈ BW := bw (sl4 (y := yX12_look) (n := 64) 5 (by decide +kernel)) (by decide +kernel)
theorem vX12_188 : LV RX12 188 RX12 yX12_look cX12_look 1 (some .int) 0 := ⟨m_1444, m_1446, s_4_5, m_12, m_1447, rfl, by decide, by decide, by decide +kernel⟩
theorem dX12_readValley_76 : decode cX12_readValley 76 = .ok (.invokevirtual 188, 3) := by decide +kernel
theorem dX12_readValley_79 : decode cX12_readValley 79 = .ok (.bipush 112, 2) := by decide +kernel
theorem dX12_readValley_81 : decode cX12_readValley 81 = .ok (.if_icmp .eq 12, 3) := by decide +kernel
theorem dX12_readValley_84 : decode cX12_readValley 84 = .ok (.aload_n 0, 1) := by decide +kernel
theorem dX12_readValley_85 : decode cX12_readValley 85 = .ok (.aload_n 0, 1) := by decide +kernel
theorem dX12_readValley_86 : decode cX12_readValley 86 = .ok (.getfield 174, 3) := by decide +kernel
theorem m_1452 : (Cond.methodLink "NoonValleyModel" 184 yX12_fails) ∈ BW := bw (tb7 12 (by decide +kernel)) (by decide +kernel)
theorem m_1454 : (Cond.instanceMethod yX12_fails) ∈ BW := bw (tb7 14 (by decide +kernel)) (by decide +kernel)
theorem s_4_7 : (Cond.selects RX12 yX12_fails yX12_fails) ∈ BW := bw (sl4 (y := yX12_fails) (n := 64) 7 (by decide +kernel)) (by decide +kernel)
theorem vX12_184 : LV RX12 184 RX12 yX12_fails cX12_fails 2 (some .boolean) 1 := ⟨m_1452, m_1454, s_4_7, m_12, m_1455, rfl, by decide, by decide, by decide +kernel⟩
theorem dX12_readValley_89 : decode cX12_readValley 89 = .ok (.invokevirtual 184, 3) := by decide +kernel
theorem dX12_readValley_92 : decode cX12_readValley 92 = .ok (.ireturn, 1) := by decide +kernel
theorem m_1439 : (Cond.code yX12_fault prog_14_method_17_code 2 (Option.some FieldType.int)) ∈ BW := bw (tb6 239 (by decide +kernel)) (by decide +kernel)
theorem dX12_fault_0 : decode cX12_fault 0 = .ok (.aload_n 0, 1) := by decide +kernel
theorem dX12_fault_1 : decode cX12_fault 1 = .ok (.iconst 0, 1) := by decide +kernel
theorem dX12_fault_2 : decode cX12_fault 2 = .ok (.putfield 160, 3) := by decide +kernel
theorem dX12_fault_5 : decode cX12_fault 5 = .ok (.aload_n 0, 1) := by decide +kernel
theorem m_1440 : (Cond.methodLink "NoonValleyModel" 218 yX12_readValley) ∈ BW := bw (tb7 0 (by decide +kernel)) (by decide +kernel)
theorem m_1442 : (Cond.instanceMethod yX12_readValley) ∈ BW := bw (tb7 2 (by decide +kernel)) (by decide +kernel)
theorem s_4_4 : (Cond.selects RX12 yX12_readValley yX12_readValley) ∈ BW := bw (sl4 (y := yX12_readValley) (n := 64) 4 (by decide +kernel)) (by decide +kernel)
theorem vX12_218 : LV RX12 218 RX12 yX12_readValley cX12_readValley 3 (some .boolean) 0 := ⟨m_1440, m_1442, s_4_4, m_12, m_1443, rfl, by decide, by decide, by decide +kernel⟩
theorem dX12_fault_6 : decode cX12_fault 6 = .ok (.invokevirtual 218, 3) := by decide +kernel
theorem dX12_fault_9 : decode cX12_fault 9 = .ok (.istore_n 1, 1) := by decide +kernel
theorem dX12_fault_10 : decode cX12_fault 10 = .ok (.aload_n 0, 1) := by decide +kernel
theorem dX12_fault_11 : decode cX12_fault 11 = .ok (.getfield 181, 3) := by decide +kernel
theorem dX12_fault_14 : decode cX12_fault 14 = .ok (.ireturn, 1) := by decide +kernel
theorem m_1482 : (Cond.code yX12_valley prog_14_method_18_code 2 (Option.some FieldType.int)) ∈ BW := bw (tb7 42 (by decide +kernel)) (by decide +kernel)
theorem dX12_valley_0 : decode cX12_valley 0 = .ok (.aload_n 0, 1) := by decide +kernel
theorem dX12_valley_1 : decode cX12_valley 1 = .ok (.iconst 0, 1) := by decide +kernel
theorem dX12_valley_2 : decode cX12_valley 2 = .ok (.putfield 160, 3) := by decide +kernel
theorem dX12_valley_5 : decode cX12_valley 5 = .ok (.aload_n 0, 1) := by decide +kernel
theorem dX12_valley_6 : decode cX12_valley 6 = .ok (.getfield 212, 3) := by decide +kernel
theorem dX12_valley_9 : decode cX12_valley 9 = .ok (.bipush 10, 2) := by decide +kernel
theorem dX12_valley_11 : decode cX12_valley 11 = .ok (.if_icmp .eq 10, 3) := by decide +kernel
theorem dX12_valley_14 : decode cX12_valley 14 = .ok (.aload_n 0, 1) := by decide +kernel
theorem dX12_valley_15 : decode cX12_valley 15 = .ok (.invokevirtual 218, 3) := by decide +kernel
theorem dX12_valley_18 : decode cX12_valley 18 = .ok (.ifCond .ne 5, 3) := by decide +kernel
theorem dX12_valley_21 : decode cX12_valley 21 = .ok (.iconst (-1), 1) := by decide +kernel
theorem dX12_valley_22 : decode cX12_valley 22 = .ok (.ireturn, 1) := by decide +kernel
theorem m_1152 : (Cond.code yX11_count prog_1_method_38_code 2 (Option.some FieldType.int)) ∈ BW := bw (tb5 192 (by decide +kernel)) (by decide +kernel)
theorem dX11_count_0 : decode cX11_count 0 = .ok (.iload_n 1, 1) := by decide +kernel
theorem dX11_count_1 : decode cX11_count 1 = .ok (.tableswitch 54 0 3 #[31, 36, 41, 46], 31) := by decide +kernel
theorem dX11_count_32 : decode cX11_count 32 = .ok (.aload_n 0, 1) := by decide +kernel
theorem dX11_count_33 : decode cX11_count 33 = .ok (.getfield 94, 3) := by decide +kernel
theorem dX11_count_36 : decode cX11_count 36 = .ok (.ireturn, 1) := by decide +kernel
theorem dX11_count_37 : decode cX11_count 37 = .ok (.aload_n 0, 1) := by decide +kernel
theorem dX11_count_38 : decode cX11_count 38 = .ok (.getfield 151, 3) := by decide +kernel
theorem dX11_count_41 : decode cX11_count 41 = .ok (.ireturn, 1) := by decide +kernel
theorem dX11_count_42 : decode cX11_count 42 = .ok (.aload_n 0, 1) := by decide +kernel
theorem m_366 : (Cond.fieldLink "NoonValley" 171 "NoonValley" "callCount" "I") ∈ BW := bw (tb2 126 (by decide +kernel)) (by decide +kernel)
theorem dX11_count_43 : decode cX11_count 43 = .ok (.getfield 171, 3) := by decide +kernel
theorem dX11_count_46 : decode cX11_count 46 = .ok (.ireturn, 1) := by decide +kernel
theorem dX11_count_47 : decode cX11_count 47 = .ok (.aload_n 0, 1) := by decide +kernel
theorem dX11_count_48 : decode cX11_count 48 = .ok (.getfield 10, 3) := by decide +kernel
theorem m_38 : (Cond.fieldLinkNest "NoonValley" 325 "NoonValley$Tape" "length" "I" "NoonValley") ∈ NWS := nw (tb1 38 (by decide +kernel)) (by decide +kernel)
theorem dX11_count_51 : decode cX11_count 51 = .ok (.getfield 325, 3) := by decide +kernel
theorem dX11_count_54 : decode cX11_count 54 = .ok (.ireturn, 1) := by decide +kernel
theorem dX11_count_55 : decode cX11_count 55 = .ok (.iconst (-1), 1) := by decide +kernel
theorem dX11_count_56 : decode cX11_count 56 = .ok (.ireturn, 1) := by decide +kernel
theorem m_1801 : (Cond.code yX12_count prog_14_method_97_code 4 (Option.some FieldType.int)) ∈ BW := bw (tb8 121 (by decide +kernel)) (by decide +kernel)
theorem dX12_count_0 : decode cX12_count 0 = .ok (.aload_n 0, 1) := by decide +kernel
theorem dX12_count_1 : decode cX12_count 1 = .ok (.iconst 0, 1) := by decide +kernel
theorem dX12_count_2 : decode cX12_count 2 = .ok (.putfield 160, 3) := by decide +kernel
theorem dX12_count_5 : decode cX12_count 5 = .ok (.iload_n 1, 1) := by decide +kernel
theorem dX12_count_6 : decode cX12_count 6 = .ok (.tableswitch 74 0 3 #[30, 35, 40, 69], 30) := by decide +kernel
theorem dX12_count_36 : decode cX12_count 36 = .ok (.aload_n 0, 1) := by decide +kernel
theorem dX12_count_37 : decode cX12_count 37 = .ok (.getfield 212, 3) := by decide +kernel
theorem dX12_count_40 : decode cX12_count 40 = .ok (.ireturn, 1) := by decide +kernel
theorem dX12_count_41 : decode cX12_count 41 = .ok (.aload_n 0, 1) := by decide +kernel
theorem dX12_count_42 : decode cX12_count 42 = .ok (.getfield 244, 3) := by decide +kernel
theorem dX12_count_45 : decode cX12_count 45 = .ok (.ireturn, 1) := by decide +kernel
theorem dX12_count_46 : decode cX12_count 46 = .ok (.iconst 0, 1) := by decide +kernel
theorem dX12_count_47 : decode cX12_count 47 = .ok (.istore_n 2, 1) := by decide +kernel
theorem dX12_count_48 : decode cX12_count 48 = .ok (.iconst 0, 1) := by decide +kernel
theorem dX12_count_49 : decode cX12_count 49 = .ok (.istore_n 3, 1) := by decide +kernel
theorem dX12_count_50 : decode cX12_count 50 = .ok (.iload_n 3, 1) := by decide +kernel
theorem dX12_count_51 : decode cX12_count 51 = .ok (.aload_n 0, 1) := by decide +kernel
theorem dX12_count_52 : decode cX12_count 52 = .ok (.getfield 244, 3) := by decide +kernel
theorem dX12_count_55 : decode cX12_count 55 = .ok (.if_icmp .ge 18, 3) := by decide +kernel
theorem dX12_count_73 : decode cX12_count 73 = .ok (.iload_n 2, 1) := by decide +kernel
theorem dX12_count_74 : decode cX12_count 74 = .ok (.ireturn, 1) := by decide +kernel
theorem dX12_count_75 : decode cX12_count 75 = .ok (.aload_n 0, 1) := by decide +kernel
theorem dX12_count_76 : decode cX12_count 76 = .ok (.getfield 163, 3) := by decide +kernel
theorem dX12_count_79 : decode cX12_count 79 = .ok (.ireturn, 1) := by decide +kernel
theorem dX12_count_80 : decode cX12_count 80 = .ok (.iconst (-1), 1) := by decide +kernel
theorem dX12_count_81 : decode cX12_count 81 = .ok (.ireturn, 1) := by decide +kernel
set_option maxHeartbeats 4000000 in
set_option maxRecDepth 100000 in
theorem C_J7_fill_53178 (l : Launch) (g : GG) (q N : Nat) (f0 : Nat → Int32) (v : Int32) (hN : N < 2 ^ 31) : MetV l g yJ7_fill_53178 cJ7_fill_53178 4 none 0 0 0 [.ref q, .int v] [(q, .inl (g.2.1 1, N, .inl f0))] (fun u => ∃ f : Nat → Int32, u = [(q, .inl (g.2.1 1, N, .inl f))]) := by
  refine MetV.of (own := RJ7) rfl (by decide) (Nat.le_of_ble_eq_true rfl) ?_
  intro p e s m below meth c A ls args Q hQ X hr hin hW hl
  have hx := X.1
  have hb := X.2.1
  have hl : lv_has ls 4 [(0, .ref q), (1, .int v)] := hl
  refine lv_iconst (v := 0) (pc := 0) hx hb dJ7_fill_53178_0 (by decide) ?_
  refine lv_istore_n (lv' := [(2, .int 0), (0, .ref q), (1, .int v)]) (pc := 1) hx hb dJ7_fill_53178_1 rfl hl (by decide) rfl (fun ls hl => ?_)
  refine lv_aload_n (pc := 2) hx hb dJ7_fill_53178_2 rfl (lv_at hl 1 rfl) ?_
  refine r_alen (v := nI N) X hW 0 1 rfl rfl rfl dJ7_fill_53178_3 ?_
  refine lv_istore_n (lv' := [(3, .int (nI N)), (2, .int 0), (0, .ref q), (1, .int v)]) (pc := 4) hx hb dJ7_fill_53178_4 rfl hl (by decide) rfl (fun ls hl => ?_)
  have loop1 : ∀ (fu : Nat) (i : Nat) (f : Nat → Int32), (N < fu + i) → (i ≤ N) → ∀ (H : Heap) (locs : List Loc) (ls : Array Slot), WD g A s H locs [(q, .inl (g.2.1 1, N, .inl f))] → lv_has ls 4 [(0, .ref q), (1, .int v), (2, .int (nI i)), (3, .int (nI N))] → W p l e (RM 0 0 0) s m args below meth c H locs 0 0 Q (F0 m 5 ls []) := by
    intro fu
    induction fu with
    | zero =>
      intro i f hm hi
      exact absurd hm (by omega)
    | succ fu ih1 =>
      intro i f hm hi H locs ls hW hl
      refine lv_iload_n (pc := 5) hx hb dJ7_fill_53178_5 rfl (lv_at hl 2 rfl) ?_
      refine lv_iload_n (pc := 6) hx hb dJ7_fill_53178_6 rfl (lv_at hl 3 rfl) ?_
      refine lv_icmp_ge (tgt := 20) (pc := 7) hx hb dJ7_fill_53178_7 rfl (fun c1 => ?_) (fun c1 => ?_)
      · exact e_v X hQ hr hW (u := [(q, .inl (g.2.1 1, N, .inl f))]) [0] rfl rfl (⟨f, rfl⟩) ⟨Nat.le_of_ble_eq_true rfl, Nat.le_of_ble_eq_true rfl⟩ dJ7_fill_53178_20
      · have hlt : i < N := ge_f (by omega) hN c1
        refine lv_aload_n (pc := 10) hx hb dJ7_fill_53178_10 rfl (lv_at hl 0 rfl) ?_
        refine lv_iload_n (pc := 11) hx hb dJ7_fill_53178_11 rfl (lv_at hl 2 rfl) ?_
        refine lv_iload_n (pc := 12) hx hb dJ7_fill_53178_12 rfl (lv_at hl 1 rfl) ?_
        obtain ⟨f2, ef2⟩ : ∃ fz : Nat → Int32, upd f (nI i).toNatClampNeg v = fz := ⟨_, rfl⟩
        refine r_iast (ws' := [(q, .inl (g.2.1 1, N, .inl f2))]) X hW 0 rfl (vp_in_nI hlt hN) ef2 rfl dJ7_fill_53178_13 (fun H locs hW => ?_)
        refine lv_iinc (v := nI (i + 1)) (lv' := [(2, .int (nI (i + 1))), (0, .ref q), (1, .int v), (3, .int (nI N))]) (pc := 14) hx hb dJ7_fill_53178_14 hl (k := 2) rfl (nI_1 i) (by decide) rfl (fun ls hl => ?_)
        refine lv_goto (tgt := 5) (pc := 17) hx hb dJ7_fill_53178_17 rfl ?_
        exact ih1 (i + 1) f2 (by omega) (by omega) _ _ _ hW (lv_sub hl [1, 2, 0, 3] rfl)
  exact loop1 (N + 1) 0 f0 (by omega) (by omega) _ _ _ hW (lv_sub hl [2, 3, 1, 0] rfl)

set_option maxHeartbeats 4000000 in
set_option maxRecDepth 100000 in
theorem C_X10_forget (l : Launch) (g : GG) (h0 d3 d4 d5 d6 d7 d8 d9 d10 d11 d12 d13 d15 : Nat) (f1 f2 f3 : Nat → Int32) : MetV l g yX10_forget cX10_forget 1 none 1 0 0 [.ref h0] [(h0, .inr (10, [.int 0, .int 0, .int 0, .ref d3, .ref d4, .ref d5, .ref d6, .ref d7, .ref d8, .ref d9, .ref d10, .ref d11, .ref d12, .ref d13, .int (-2), .ref d15])), (d3, .inl (g.2.1 1, 4, .inl f1)), (d4, .inl (g.2.1 1, 4, .inl f2)), (d5, .inl (g.2.1 1, 4, .inl f3))] (fun u => ∃ f4 f5 f6 : Nat → Int32, u = [(h0, .inr (10, [.int 0, .int 0, .int 0, .ref d3, .ref d4, .ref d5, .ref d6, .ref d7, .ref d8, .ref d9, .ref d10, .ref d11, .ref d12, .ref d13, .int (-2), .ref d15])), (d3, .inl (g.2.1 1, 4, .inl f4)), (d4, .inl (g.2.1 1, 4, .inl f5)), (d5, .inl (g.2.1 1, 4, .inl f6))]) := by
  refine MetV.of (own := RX10) rfl (by decide) (Nat.le_of_ble_eq_true rfl) ?_
  intro p e s m below meth c A ls args Q hQ X hr hin hW hl
  have hx := X.1
  have hb := X.2.1
  have hl : lv_has ls 1 [(0, .ref h0)] := hl
  refine lv_aload_n (pc := 0) hx hb dX10_forget_0 rfl (lv_at hl 0 rfl) ?_
  refine lv_iconst (v := 0) (pc := 1) hx hb dX10_forget_1 (by decide) ?_
  refine r_put (ws' := [(h0, .inr (10, [.int 0, .int 0, .int 0, .ref d3, .ref d4, .ref d5, .ref d6, .ref d7, .ref d8, .ref d9, .ref d10, .ref d11, .ref d12, .ref d13, .int (-2), .ref d15])), (d3, .inl (g.2.1 1, 4, .inl f1)), (d4, .inl (g.2.1 1, 4, .inl f2)), (d5, .inl (g.2.1 1, 4, .inl f3))]) X hW 0 ciX10 0 rfl (by decide) m_272 rfl rfl rfl rfl (Nat.le_of_ble_eq_true rfl) rfl dX10_forget_2 (fun H locs hW => ?_)
  refine lv_aload_n (pc := 5) hx hb dX10_forget_5 rfl (lv_at hl 0 rfl) ?_
  refine lv_iconst (v := 0) (pc := 6) hx hb dX10_forget_6 (by decide) ?_
  refine r_put (ws' := [(h0, .inr (10, [.int 0, .int 0, .int 0, .ref d3, .ref d4, .ref d5, .ref d6, .ref d7, .ref d8, .ref d9, .ref d10, .ref d11, .ref d12, .ref d13, .int (-2), .ref d15])), (d3, .inl (g.2.1 1, 4, .inl f1)), (d4, .inl (g.2.1 1, 4, .inl f2)), (d5, .inl (g.2.1 1, 4, .inl f3))]) X hW 0 ciX10 1 rfl (by decide) m_280 rfl rfl rfl rfl (Nat.le_of_ble_eq_true rfl) rfl dX10_forget_7 (fun H locs hW => ?_)
  refine lv_aload_n (pc := 10) hx hb dX10_forget_10 rfl (lv_at hl 0 rfl) ?_
  refine lv_iconst (v := 0) (pc := 11) hx hb dX10_forget_11 (by decide) ?_
  refine r_put (ws' := [(h0, .inr (10, [.int 0, .int 0, .int 0, .ref d3, .ref d4, .ref d5, .ref d6, .ref d7, .ref d8, .ref d9, .ref d10, .ref d11, .ref d12, .ref d13, .int (-2), .ref d15])), (d3, .inl (g.2.1 1, 4, .inl f1)), (d4, .inl (g.2.1 1, 4, .inl f2)), (d5, .inl (g.2.1 1, 4, .inl f3))]) X hW 0 ciX10 2 rfl (by decide) m_285 rfl rfl rfl rfl (Nat.le_of_ble_eq_true rfl) rfl dX10_forget_12 (fun H locs hW => ?_)
  refine lv_aload_n (pc := 15) hx hb dX10_forget_15 rfl (lv_at hl 0 rfl) ?_
  refine r_get X hW 0 ciX10 3 rfl (by decide) m_291 rfl rfl dX10_forget_16 ?_
  refine lv_iconst (v := 0) (pc := 19) hx hb dX10_forget_19 (by decide) ?_
  refine c_Sv (pc := 20) (As := [.ref d3, .int 0]) (rest := []) (wr := [(h0, .inr (10, [.int 0, .int 0, .int 0, .ref d3, .ref d4, .ref d5, .ref d6, .ref d7, .ref d8, .ref d9, .ref d10, .ref d11, .ref d12, .ref d13, .int (-2), .ref d15])), (d4, .inl (g.2.1 1, 4, .inl f2)), (d5, .inl (g.2.1 1, 4, .inl f3))]) X hW (C_J7_fill_53178 l g d3 4 f1 0 (by decide)) vX10_63 [1] [0, 2, 3] rfl rfl rfl rfl rfl rfl hl.1 rfl (Nat.le_of_ble_eq_true rfl) ⟨Nat.le_of_ble_eq_true rfl, Nat.le_of_ble_eq_true rfl⟩ ⟨Nat.le_of_ble_eq_true rfl, Nat.le_of_ble_eq_true rfl⟩ dX10_forget_20 (fun u9 H locs hq hW => ?_)
  obtain ⟨f1, rfl⟩ := hq
  have hW : WD g A s _ _ [(h0, .inr (10, [.int 0, .int 0, .int 0, .ref d3, .ref d4, .ref d5, .ref d6, .ref d7, .ref d8, .ref d9, .ref d10, .ref d11, .ref d12, .ref d13, .int (-2), .ref d15])), (d4, .inl (g.2.1 1, 4, .inl f2)), (d5, .inl (g.2.1 1, 4, .inl f3)), (d3, .inl (g.2.1 1, 4, .inl f1))] := hW
  refine lv_aload_n (pc := 23) hx hb dX10_forget_23 rfl (lv_at hl 0 rfl) ?_
  refine r_get X hW 0 ciX10 4 rfl (by decide) m_296 rfl rfl dX10_forget_24 ?_
  refine lv_iconst (v := 0) (pc := 27) hx hb dX10_forget_27 (by decide) ?_
  refine c_Sv (pc := 28) (As := [.ref d4, .int 0]) (rest := []) (wr := [(h0, .inr (10, [.int 0, .int 0, .int 0, .ref d3, .ref d4, .ref d5, .ref d6, .ref d7, .ref d8, .ref d9, .ref d10, .ref d11, .ref d12, .ref d13, .int (-2), .ref d15])), (d5, .inl (g.2.1 1, 4, .inl f3)), (d3, .inl (g.2.1 1, 4, .inl f1))]) X hW (C_J7_fill_53178 l g d4 4 f2 0 (by decide)) vX10_63 [1] [0, 2, 3] rfl rfl rfl rfl rfl rfl hl.1 rfl (Nat.le_of_ble_eq_true rfl) ⟨Nat.le_of_ble_eq_true rfl, Nat.le_of_ble_eq_true rfl⟩ ⟨Nat.le_of_ble_eq_true rfl, Nat.le_of_ble_eq_true rfl⟩ dX10_forget_28 (fun u9 H locs hq hW => ?_)
  obtain ⟨f2, rfl⟩ := hq
  have hW : WD g A s _ _ [(h0, .inr (10, [.int 0, .int 0, .int 0, .ref d3, .ref d4, .ref d5, .ref d6, .ref d7, .ref d8, .ref d9, .ref d10, .ref d11, .ref d12, .ref d13, .int (-2), .ref d15])), (d5, .inl (g.2.1 1, 4, .inl f3)), (d3, .inl (g.2.1 1, 4, .inl f1)), (d4, .inl (g.2.1 1, 4, .inl f2))] := hW
  refine lv_aload_n (pc := 31) hx hb dX10_forget_31 rfl (lv_at hl 0 rfl) ?_
  refine r_get X hW 0 ciX10 5 rfl (by decide) m_300 rfl rfl dX10_forget_32 ?_
  refine lv_iconst (v := 0) (pc := 35) hx hb dX10_forget_35 (by decide) ?_
  refine c_Sv (pc := 36) (As := [.ref d5, .int 0]) (rest := []) (wr := [(h0, .inr (10, [.int 0, .int 0, .int 0, .ref d3, .ref d4, .ref d5, .ref d6, .ref d7, .ref d8, .ref d9, .ref d10, .ref d11, .ref d12, .ref d13, .int (-2), .ref d15])), (d3, .inl (g.2.1 1, 4, .inl f1)), (d4, .inl (g.2.1 1, 4, .inl f2))]) X hW (C_J7_fill_53178 l g d5 4 f3 0 (by decide)) vX10_63 [1] [0, 2, 3] rfl rfl rfl rfl rfl rfl hl.1 rfl (Nat.le_of_ble_eq_true rfl) ⟨Nat.le_of_ble_eq_true rfl, Nat.le_of_ble_eq_true rfl⟩ ⟨Nat.le_of_ble_eq_true rfl, Nat.le_of_ble_eq_true rfl⟩ dX10_forget_36 (fun u9 H locs hq hW => ?_)
  obtain ⟨f3, rfl⟩ := hq
  have hW : WD g A s _ _ [(h0, .inr (10, [.int 0, .int 0, .int 0, .ref d3, .ref d4, .ref d5, .ref d6, .ref d7, .ref d8, .ref d9, .ref d10, .ref d11, .ref d12, .ref d13, .int (-2), .ref d15])), (d3, .inl (g.2.1 1, 4, .inl f1)), (d4, .inl (g.2.1 1, 4, .inl f2)), (d5, .inl (g.2.1 1, 4, .inl f3))] := hW
  exact e_v X hQ hr hW (u := [(h0, .inr (10, [.int 0, .int 0, .int 0, .ref d3, .ref d4, .ref d5, .ref d6, .ref d7, .ref d8, .ref d9, .ref d10, .ref d11, .ref d12, .ref d13, .int (-2), .ref d15])), (d3, .inl (g.2.1 1, 4, .inl f1)), (d4, .inl (g.2.1 1, 4, .inl f2)), (d5, .inl (g.2.1 1, 4, .inl f3))]) [0, 1, 2, 3] rfl rfl (⟨_, _, _, rfl⟩) ⟨Nat.le_of_ble_eq_true rfl, Nat.le_of_ble_eq_true rfl⟩ dX10_forget_39

set_option maxHeartbeats 4000000 in
set_option maxRecDepth 100000 in
theorem C_X8_at (l : Launch) (g : GG) (h0 q : Nat) : MetI l g yX8_at cX8_at 2 (some .int) 0 0 0 [.ref h0, .int 0] [(h0, .inr (8, [.ref q, .int 0, .int 0]))] (fun r u => r = (-1) ∧ u = [(h0, .inr (8, [.ref q, .int 0, .int 0]))]) := by
  refine MetI.of (own := RX8) rfl (by decide) (Nat.le_of_ble_eq_true rfl) ?_
  intro p e s m below meth c A ls args Q hQ X hr hin hW hl
  have hx := X.1
  have hb := X.2.1
  have hl : lv_has ls 2 [(0, .ref h0), (1, .int 0)] := hl
  refine lv_iload_n (pc := 0) hx hb dX8_at_0 rfl (lv_at hl 1 rfl) ?_
  refine lv_if_lt (tgt := 12) (pc := 1) hx hb dX8_at_1 rfl (fun c1 => absurd c1 (by decide)) (fun c1 => ?_)
  refine lv_iload_n (pc := 4) hx hb dX8_at_4 rfl (lv_at hl 1 rfl) ?_
  refine lv_aload_n (pc := 5) hx hb dX8_at_5 rfl (lv_at hl 0 rfl) ?_
  refine r_get X hW 0 ciX8 1 rfl (by decide) m_37 rfl rfl dX8_at_6 ?_
  refine lv_icmp_lt (tgt := 16) (pc := 9) hx hb dX8_at_9 rfl (fun c2 => absurd c2 (by decide)) (fun c2 => ?_)
  refine lv_iconst (v := (-1)) (pc := 12) hx hb dX8_at_12 (by decide) ?_
  refine lv_goto (tgt := 22) (pc := 13) hx hb dX8_at_13 rfl ?_
  exact e_i X hQ hr hW (u := [(h0, .inr (8, [.ref q, .int 0, .int 0]))]) [0] rfl rfl (⟨rfl, rfl⟩) ⟨Nat.le_of_ble_eq_true rfl, Nat.le_of_ble_eq_true rfl⟩ dX8_at_22

set_option maxHeartbeats 4000000 in
set_option maxRecDepth 100000 in
theorem C_X8_skipBlanks (l : Launch) (g : GG) (h0 q : Nat) : MetV l g yX8_skipBlanks cX8_skipBlanks 1 none 0 0 0 [.ref h0] [(h0, .inr (8, [.ref q, .int 0, .int 0]))] (fun u => u = [(h0, .inr (8, [.ref q, .int 0, .int 0]))]) := by
  refine MetV.of (own := RX8) rfl (by decide) (Nat.le_of_ble_eq_true rfl) ?_
  intro p e s m below meth c A ls args Q hQ X hr hin hW hl
  have hx := X.1
  have hb := X.2.1
  have hl : lv_has ls 1 [(0, .ref h0)] := hl
  refine lv_aload_n (pc := 0) hx hb dX8_skipBlanks_0 rfl (lv_at hl 0 rfl) ?_
  refine r_get X hW 0 ciX8 2 rfl (by decide) m_39 rfl rfl dX8_skipBlanks_1 ?_
  refine lv_aload_n (pc := 4) hx hb dX8_skipBlanks_4 rfl (lv_at hl 0 rfl) ?_
  refine r_get X hW 0 ciX8 1 rfl (by decide) m_37 rfl rfl dX8_skipBlanks_5 ?_
  refine lv_icmp_ge (tgt := 37) (pc := 8) hx hb dX8_skipBlanks_8 rfl (fun c1 => ?_) (fun c1 => absurd (by decide) c1)
  exact e_v X hQ hr hW (u := [(h0, .inr (8, [.ref q, .int 0, .int 0]))]) [0] rfl rfl (rfl) ⟨Nat.le_of_ble_eq_true rfl, Nat.le_of_ble_eq_true rfl⟩ dX8_skipBlanks_37

set_option maxHeartbeats 4000000 in
set_option maxRecDepth 100000 in
theorem C_X8_read (l : Launch) (g : GG) (h0 q h1 d3 d4 d5 d6 d7 d8 d9 d10 d11 d12 d13 d15 : Nat) (f1 f2 f3 : Nat → Int32) : MetI l g yX8_read cX8_read 2 (some .int) 2 0 0 [.ref h0, .ref h1] [(h0, .inr (8, [.ref q, .int 0, .int 0])), (h1, .inr (10, [.int 0, .int 0, .int 0, .ref d3, .ref d4, .ref d5, .ref d6, .ref d7, .ref d8, .ref d9, .ref d10, .ref d11, .ref d12, .ref d13, .int (-2), .ref d15])), (d3, .inl (g.2.1 1, 4, .inl f1)), (d4, .inl (g.2.1 1, 4, .inl f2)), (d5, .inl (g.2.1 1, 4, .inl f3))] (fun r u => r = (0) ∧ u = []) := by
  refine MetI.of (own := RX8) rfl (by decide) (Nat.le_of_ble_eq_true rfl) ?_
  intro p e s m below meth c A ls args Q hQ X hr hin hW hl
  have hx := X.1
  have hb := X.2.1
  have hl : lv_has ls 2 [(0, .ref h0), (1, .ref h1)] := hl
  refine lv_aload_n (pc := 0) hx hb dX8_read_0 rfl (lv_at hl 0 rfl) ?_
  refine lv_iconst (v := 0) (pc := 1) hx hb dX8_read_1 (by decide) ?_
  refine r_put (ws' := [(h0, .inr (8, [.ref q, .int 0, .int 0])), (h1, .inr (10, [.int 0, .int 0, .int 0, .ref d3, .ref d4, .ref d5, .ref d6, .ref d7, .ref d8, .ref d9, .ref d10, .ref d11, .ref d12, .ref d13, .int (-2), .ref d15])), (d3, .inl (g.2.1 1, 4, .inl f1)), (d4, .inl (g.2.1 1, 4, .inl f2)), (d5, .inl (g.2.1 1, 4, .inl f3))]) X hW 0 ciX8 2 rfl (by decide) m_39 rfl rfl rfl rfl (Nat.le_of_ble_eq_true rfl) rfl dX8_read_2 (fun H locs hW => ?_)
  refine lv_aload_n (pc := 5) hx hb dX8_read_5 rfl (lv_at hl 1 rfl) ?_
  refine c_Vv (pc := 6) (As := []) (rest := []) (wr := [(h0, .inr (8, [.ref q, .int 0, .int 0]))]) X hW 1 ciX10 rfl (C_X10_forget l g h1 d3 d4 d5 d6 d7 d8 d9 d10 d11 d12 d13 d15 f1 f2 f3) vX8_30 [1, 2, 3, 4] [0] rfl rfl rfl rfl rfl rfl hl.1 rfl (Nat.le_of_ble_eq_true rfl) ⟨Nat.le_of_ble_eq_true rfl, Nat.le_of_ble_eq_true rfl⟩ ⟨Nat.le_of_ble_eq_true rfl, Nat.le_of_ble_eq_true rfl⟩ dX8_read_6 (fun u9 H locs hq hW => ?_)
  obtain ⟨f1, f2, f3, rfl⟩ := hq
  have hW : WD g A s _ _ [(h0, .inr (8, [.ref q, .int 0, .int 0])), (h1, .inr (10, [.int 0, .int 0, .int 0, .ref d3, .ref d4, .ref d5, .ref d6, .ref d7, .ref d8, .ref d9, .ref d10, .ref d11, .ref d12, .ref d13, .int (-2), .ref d15])), (d3, .inl (g.2.1 1, 4, .inl f1)), (d4, .inl (g.2.1 1, 4, .inl f2)), (d5, .inl (g.2.1 1, 4, .inl f3))] := hW
  refine lv_aload_n (pc := 9) hx hb dX8_read_9 rfl (lv_at hl 0 rfl) ?_
  refine c_Vv (pc := 10) (As := []) (rest := []) (wr := [(h1, .inr (10, [.int 0, .int 0, .int 0, .ref d3, .ref d4, .ref d5, .ref d6, .ref d7, .ref d8, .ref d9, .ref d10, .ref d11, .ref d12, .ref d13, .int (-2), .ref d15])), (d3, .inl (g.2.1 1, 4, .inl f1)), (d4, .inl (g.2.1 1, 4, .inl f2)), (d5, .inl (g.2.1 1, 4, .inl f3))]) X hW 0 ciX8 rfl (C_X8_skipBlanks l g h0 q) vX8_35 [0] [1, 2, 3, 4] rfl rfl rfl rfl rfl rfl hl.1 rfl (Nat.le_of_ble_eq_true rfl) ⟨Nat.le_of_ble_eq_true rfl, Nat.le_of_ble_eq_true rfl⟩ ⟨Nat.le_of_ble_eq_true rfl, Nat.le_of_ble_eq_true rfl⟩ dX8_read_10 (fun u9 H locs hq hW => ?_)
  obtain rfl := hq
  have hW : WD g A s _ _ [(h1, .inr (10, [.int 0, .int 0, .int 0, .ref d3, .ref d4, .ref d5, .ref d6, .ref d7, .ref d8, .ref d9, .ref d10, .ref d11, .ref d12, .ref d13, .int (-2), .ref d15])), (d3, .inl (g.2.1 1, 4, .inl f1)), (d4, .inl (g.2.1 1, 4, .inl f2)), (d5, .inl (g.2.1 1, 4, .inl f3)), (h0, .inr (8, [.ref q, .int 0, .int 0]))] := hW
  refine lv_aload_n (pc := 13) hx hb dX8_read_13 rfl (lv_at hl 0 rfl) ?_
  refine lv_aload_n (pc := 14) hx hb dX8_read_14 rfl (lv_at hl 0 rfl) ?_
  refine r_get X hW 4 ciX8 2 rfl (by decide) m_39 rfl rfl dX8_read_15 ?_
  refine c_Vi (pc := 18) (As := [.int 0]) (rest := []) (wr := [(h1, .inr (10, [.int 0, .int 0, .int 0, .ref d3, .ref d4, .ref d5, .ref d6, .ref d7, .ref d8, .ref d9, .ref d10, .ref d11, .ref d12, .ref d13, .int (-2), .ref d15])), (d3, .inl (g.2.1 1, 4, .inl f1)), (d4, .inl (g.2.1 1, 4, .inl f2)), (d5, .inl (g.2.1 1, 4, .inl f3))]) X hW 4 ciX8 rfl (C_X8_at l g h0 q) vX8_38 [4] [0, 1, 2, 3] rfl rfl rfl rfl rfl rfl hl.1 rfl (Nat.le_of_ble_eq_true rfl) ⟨Nat.le_of_ble_eq_true rfl, Nat.le_of_ble_eq_true rfl⟩ ⟨Nat.le_of_ble_eq_true rfl, Nat.le_of_ble_eq_true rfl⟩ dX8_read_18 (fun r4 u9 H locs hq hW => ?_)
  obtain ⟨rfl, rfl⟩ := hq
  have hW : WD g A s _ _ [(h1, .inr (10, [.int 0, .int 0, .int 0, .ref d3, .ref d4, .ref d5, .ref d6, .ref d7, .ref d8, .ref d9, .ref d10, .ref d11, .ref d12, .ref d13, .int (-2), .ref d15])), (d3, .inl (g.2.1 1, 4, .inl f1)), (d4, .inl (g.2.1 1, 4, .inl f2)), (d5, .inl (g.2.1 1, 4, .inl f3)), (h0, .inr (8, [.ref q, .int 0, .int 0]))] := hW
  refine lv_bipush (v := 112) (pc := 21) hx hb dX8_read_21 (by decide) ?_
  refine lv_icmp_eq (tgt := 31) (pc := 23) hx hb dX8_read_23 rfl (fun c5 => absurd c5 (by decide)) (fun c5 => ?_)
  refine lv_aload_n (pc := 26) hx hb dX8_read_26 rfl (lv_at hl 0 rfl) ?_
  refine r_get X hW 4 ciX8 2 rfl (by decide) m_39 rfl rfl dX8_read_27 ?_
  exact e_i X hQ hr hW (u := []) [] rfl rfl (⟨rfl, rfl⟩) ⟨Nat.le_of_ble_eq_true rfl, Nat.le_of_ble_eq_true rfl⟩ dX8_read_30

set_option maxHeartbeats 4000000 in
set_option maxRecDepth 100000 in
theorem C_X11_fault (l : Launch) (g : GG) (h0 a0 a1 a2 a3 a4 a5 a6 a7 a8 a9 a10 q d3 d4 d5 d6 d7 d8 d9 d10 d11 d12 d13 d15 : Nat) (f1 f2 f3 : Nat → Int32) : MetI l g yX11_fault cX11_fault 1 (some .int) 3 0 0 [.ref h0] [(h0, .inr (11, [.ref a0, .ref a1, .ref a2, .ref a3, .ref a4, .ref a5, .ref a6, .ref a7, .ref a8, .ref a9, .ref a10, .int 0, .int 0, .int 0])), (a0, .inr (8, [.ref q, .int 0, .int 0])), (a10, .inr (10, [.int 0, .int 0, .int 0, .ref d3, .ref d4, .ref d5, .ref d6, .ref d7, .ref d8, .ref d9, .ref d10, .ref d11, .ref d12, .ref d13, .int (-2), .ref d15])), (d3, .inl (g.2.1 1, 4, .inl f1)), (d4, .inl (g.2.1 1, 4, .inl f2)), (d5, .inl (g.2.1 1, 4, .inl f3))] (fun r u => r = (0) ∧ u = []) := by
  refine MetI.of (own := RX11) rfl (by decide) (Nat.le_of_ble_eq_true rfl) ?_
  intro p e s m below meth c A ls args Q hQ X hr hin hW hl
  have hx := X.1
  have hb := X.2.1
  have hl : lv_has ls 1 [(0, .ref h0)] := hl
  refine lv_aload_n (pc := 0) hx hb dX11_fault_0 rfl (lv_at hl 0 rfl) ?_
  refine r_get X hW 0 ciX11 0 rfl (by decide) m_353 rfl rfl dX11_fault_1 ?_
  refine lv_aload_n (pc := 4) hx hb dX11_fault_4 rfl (lv_at hl 0 rfl) ?_
  refine r_get X hW 0 ciX11 10 rfl (by decide) m_363 rfl rfl dX11_fault_5 ?_
  refine c_Vi (pc := 8) (As := [.ref a10]) (rest := []) (wr := [(h0, .inr (11, [.ref a0, .ref a1, .ref a2, .ref a3, .ref a4, .ref a5, .ref a6, .ref a7, .ref a8, .ref a9, .ref a10, .int 0, .int 0, .int 0]))]) X hW 1 ciX8 rfl (C_X8_read l g a0 q a10 d3 d4 d5 d6 d7 d8 d9 d10 d11 d12 d13 d15 f1 f2 f3) vX11_90 [1, 2, 3, 4, 5] [0] rfl rfl rfl rfl rfl rfl hl.1 rfl (Nat.le_of_ble_eq_true rfl) ⟨Nat.le_of_ble_eq_true rfl, Nat.le_of_ble_eq_true rfl⟩ ⟨Nat.le_of_ble_eq_true rfl, Nat.le_of_ble_eq_true rfl⟩ dX11_fault_8 (fun r1 u9 H locs hq hW => ?_)
  obtain ⟨rfl, rfl⟩ := hq
  have hW : WD g A s _ _ [(h0, .inr (11, [.ref a0, .ref a1, .ref a2, .ref a3, .ref a4, .ref a5, .ref a6, .ref a7, .ref a8, .ref a9, .ref a10, .int 0, .int 0, .int 0]))] := hW
  exact e_i X hQ hr hW (u := []) [] rfl rfl (⟨rfl, rfl⟩) ⟨Nat.le_of_ble_eq_true rfl, Nat.le_of_ble_eq_true rfl⟩ dX11_fault_11

set_option maxHeartbeats 4000000 in
set_option maxRecDepth 100000 in
theorem C_X11_valley (l : Launch) (g : GG) (h0 a0 a1 a2 a3 a4 a5 a6 a7 a8 a9 a10 q d3 d4 d5 d6 d7 d8 d9 d10 d11 d12 d13 d15 : Nat) (f1 f2 f3 : Nat → Int32) : MetI l g yX11_valley cX11_valley 1 (some .int) 3 0 0 [.ref h0] [(h0, .inr (11, [.ref a0, .ref a1, .ref a2, .ref a3, .ref a4, .ref a5, .ref a6, .ref a7, .ref a8, .ref a9, .ref a10, .int 0, .int 0, .int 0])), (a0, .inr (8, [.ref q, .int 0, .int 0])), (a10, .inr (10, [.int 0, .int 0, .int 0, .ref d3, .ref d4, .ref d5, .ref d6, .ref d7, .ref d8, .ref d9, .ref d10, .ref d11, .ref d12, .ref d13, .int (-2), .ref d15])), (d3, .inl (g.2.1 1, 4, .inl f1)), (d4, .inl (g.2.1 1, 4, .inl f2)), (d5, .inl (g.2.1 1, 4, .inl f3))] (fun r u => r = (-1) ∧ u = []) := by
  refine MetI.of (own := RX11) rfl (by decide) (Nat.le_of_ble_eq_true rfl) ?_
  intro p e s m below meth c A ls args Q hQ X hr hin hW hl
  have hx := X.1
  have hb := X.2.1
  have hl : lv_has ls 1 [(0, .ref h0)] := hl
  refine lv_aload_n (pc := 0) hx hb dX11_valley_0 rfl (lv_at hl 0 rfl) ?_
  refine r_get X hW 0 ciX11 11 rfl (by decide) m_364 rfl rfl dX11_valley_1 ?_
  refine lv_bipush (v := 10) (pc := 4) hx hb dX11_valley_4 (by decide) ?_
  refine lv_icmp_ge (tgt := 24) (pc := 6) hx hb dX11_valley_6 rfl (fun c1 => absurd c1 (by decide)) (fun c1 => ?_)
  refine lv_aload_n (pc := 9) hx hb dX11_valley_9 rfl (lv_at hl 0 rfl) ?_
  refine r_get X hW 0 ciX11 0 rfl (by decide) m_353 rfl rfl dX11_valley_10 ?_
  refine lv_aload_n (pc := 13) hx hb dX11_valley_13 rfl (lv_at hl 0 rfl) ?_
  refine r_get X hW 0 ciX11 10 rfl (by decide) m_363 rfl rfl dX11_valley_14 ?_
  refine c_Vi (pc := 17) (As := [.ref a10]) (rest := []) (wr := [(h0, .inr (11, [.ref a0, .ref a1, .ref a2, .ref a3, .ref a4, .ref a5, .ref a6, .ref a7, .ref a8, .ref a9, .ref a10, .int 0, .int 0, .int 0]))]) X hW 1 ciX8 rfl (C_X8_read l g a0 q a10 d3 d4 d5 d6 d7 d8 d9 d10 d11 d12 d13 d15 f1 f2 f3) vX11_90 [1, 2, 3, 4, 5] [0] rfl rfl rfl rfl rfl rfl hl.1 rfl (Nat.le_of_ble_eq_true rfl) ⟨Nat.le_of_ble_eq_true rfl, Nat.le_of_ble_eq_true rfl⟩ ⟨Nat.le_of_ble_eq_true rfl, Nat.le_of_ble_eq_true rfl⟩ dX11_valley_17 (fun r2 u9 H locs hq hW => ?_)
  obtain ⟨rfl, rfl⟩ := hq
  have hW : WD g A s _ _ [(h0, .inr (11, [.ref a0, .ref a1, .ref a2, .ref a3, .ref a4, .ref a5, .ref a6, .ref a7, .ref a8, .ref a9, .ref a10, .int 0, .int 0, .int 0]))] := hW
  refine lv_iconst (v := (-1)) (pc := 20) hx hb dX11_valley_20 (by decide) ?_
  refine lv_icmp_eq (tgt := 26) (pc := 21) hx hb dX11_valley_21 rfl (fun c3 => absurd c3 (by decide)) (fun c3 => ?_)
  refine lv_iconst (v := (-1)) (pc := 24) hx hb dX11_valley_24 (by decide) ?_
  exact e_i X hQ hr hW (u := []) [] rfl rfl (⟨rfl, rfl⟩) ⟨Nat.le_of_ble_eq_true rfl, Nat.le_of_ble_eq_true rfl⟩ dX11_valley_25

set_option maxHeartbeats 4000000 in
set_option maxRecDepth 100000 in
theorem C_X12_here (l : Launch) (g : GG) (h0 b1 b6 b7 b8 b9 b10 b11 b12 b13 b14 b15 b16 b17 b21 b22 b23 b24 b25 b26 b28 b29 b30 b31 b32 b33 b34 b35 b36 b46 b47 b48 b49 b50 b51 b52 b53 b54 b55 b56 b57 b58 b59 b60 b61 b62 b63 : Nat) : MetI l g yX12_here cX12_here 1 (some .int) 0 0 0 [.ref h0] [(h0, .inr (12, [.int 0, .ref b1, .int 0, .int 0, .int (-1), .int 0, .ref b6, .ref b7, .ref b8, .ref b9, .ref b10, .ref b11, .ref b12, .ref b13, .ref b14, .ref b15, .ref b16, .ref b17, .int 0, .int (-1), .int (-1), .ref b21, .ref b22, .ref b23, .ref b24, .ref b25, .ref b26, .int 0, .ref b28, .ref b29, .ref b30, .ref b31, .ref b32, .ref b33, .ref b34, .ref b35, .ref b36, .int 0, .int 0, .int 0, .int 0, .int 0, .int 0, .int 0, .int 0, .int 0, .ref b46, .ref b47, .ref b48, .ref b49, .ref b50, .ref b51, .ref b52, .ref b53, .ref b54, .ref b55, .ref b56, .ref b57, .ref b58, .ref b59, .ref b60, .ref b61, .ref b62, .ref b63]))] (fun r u => r = (-1) ∧ u = [(h0, .inr (12, [.int 0, .ref b1, .int 0, .int 0, .int (-1), .int 0, .ref b6, .ref b7, .ref b8, .ref b9, .ref b10, .ref b11, .ref b12, .ref b13, .ref b14, .ref b15, .ref b16, .ref b17, .int 0, .int (-1), .int (-1), .ref b21, .ref b22, .ref b23, .ref b24, .ref b25, .ref b26, .int 0, .ref b28, .ref b29, .ref b30, .ref b31, .ref b32, .ref b33, .ref b34, .ref b35, .ref b36, .int 0, .int 0, .int 0, .int 0, .int 0, .int 0, .int 0, .int 0, .int 0, .ref b46, .ref b47, .ref b48, .ref b49, .ref b50, .ref b51, .ref b52, .ref b53, .ref b54, .ref b55, .ref b56, .ref b57, .ref b58, .ref b59, .ref b60, .ref b61, .ref b62, .ref b63]))]) := by
  refine MetI.of (own := RX12) rfl (by decide) (Nat.le_of_ble_eq_true rfl) ?_
  intro p e s m below meth c A ls args Q hQ X hr hin hW hl
  have hx := X.1
  have hb := X.2.1
  have hl : lv_has ls 1 [(0, .ref h0)] := hl
  refine lv_aload_n (pc := 0) hx hb dX12_here_0 rfl (lv_at hl 0 rfl) ?_
  refine r_get X hW 0 ciX12 3 rfl (by decide) m_1234 rfl rfl dX12_here_1 ?_
  refine lv_aload_n (pc := 4) hx hb dX12_here_4 rfl (lv_at hl 0 rfl) ?_
  refine r_get X hW 0 ciX12 2 rfl (by decide) m_1233 rfl rfl dX12_here_5 ?_
  refine lv_icmp_ge (tgt := 27) (pc := 8) hx hb dX12_here_8 rfl (fun c1 => ?_) (fun c1 => absurd (by decide) c1)
  refine lv_iconst (v := (-1)) (pc := 27) hx hb dX12_here_27 (by decide) ?_
  exact e_i X hQ hr hW (u := [(h0, .inr (12, [.int 0, .ref b1, .int 0, .int 0, .int (-1), .int 0, .ref b6, .ref b7, .ref b8, .ref b9, .ref b10, .ref b11, .ref b12, .ref b13, .ref b14, .ref b15, .ref b16, .ref b17, .int 0, .int (-1), .int (-1), .ref b21, .ref b22, .ref b23, .ref b24, .ref b25, .ref b26, .int 0, .ref b28, .ref b29, .ref b30, .ref b31, .ref b32, .ref b33, .ref b34, .ref b35, .ref b36, .int 0, .int 0, .int 0, .int 0, .int 0, .int 0, .int 0, .int 0, .int 0, .ref b46, .ref b47, .ref b48, .ref b49, .ref b50, .ref b51, .ref b52, .ref b53, .ref b54, .ref b55, .ref b56, .ref b57, .ref b58, .ref b59, .ref b60, .ref b61, .ref b62, .ref b63]))]) [0] rfl rfl (⟨rfl, rfl⟩) ⟨Nat.le_of_ble_eq_true rfl, Nat.le_of_ble_eq_true rfl⟩ dX12_here_28

set_option maxHeartbeats 4000000 in
set_option maxRecDepth 100000 in
theorem C_X12_look (l : Launch) (g : GG) (h0 b1 b6 b7 b8 b9 b10 b11 b12 b13 b14 b15 b16 b17 b21 b22 b23 b24 b25 b26 b28 b29 b30 b31 b32 b33 b34 b35 b36 b46 b47 b48 b49 b50 b51 b52 b53 b54 b55 b56 b57 b58 b59 b60 b61 b62 b63 : Nat) : MetI l g yX12_look cX12_look 1 (some .int) 1 0 0 [.ref h0] [(h0, .inr (12, [.int 0, .ref b1, .int 0, .int 0, .int (-1), .int 0, .ref b6, .ref b7, .ref b8, .ref b9, .ref b10, .ref b11, .ref b12, .ref b13, .ref b14, .ref b15, .ref b16, .ref b17, .int 0, .int (-1), .int (-1), .ref b21, .ref b22, .ref b23, .ref b24, .ref b25, .ref b26, .int 0, .ref b28, .ref b29, .ref b30, .ref b31, .ref b32, .ref b33, .ref b34, .ref b35, .ref b36, .int 0, .int 0, .int 0, .int 0, .int 0, .int 0, .int 0, .int 0, .int 0, .ref b46, .ref b47, .ref b48, .ref b49, .ref b50, .ref b51, .ref b52, .ref b53, .ref b54, .ref b55, .ref b56, .ref b57, .ref b58, .ref b59, .ref b60, .ref b61, .ref b62, .ref b63]))] (fun r u => r = (-1) ∧ u = [(h0, .inr (12, [.int 0, .ref b1, .int 0, .int 0, .int (-1), .int 0, .ref b6, .ref b7, .ref b8, .ref b9, .ref b10, .ref b11, .ref b12, .ref b13, .ref b14, .ref b15, .ref b16, .ref b17, .int 0, .int (-1), .int (-1), .ref b21, .ref b22, .ref b23, .ref b24, .ref b25, .ref b26, .int 0, .ref b28, .ref b29, .ref b30, .ref b31, .ref b32, .ref b33, .ref b34, .ref b35, .ref b36, .int 0, .int 0, .int 0, .int 0, .int 0, .int 0, .int 0, .int 0, .int 0, .ref b46, .ref b47, .ref b48, .ref b49, .ref b50, .ref b51, .ref b52, .ref b53, .ref b54, .ref b55, .ref b56, .ref b57, .ref b58, .ref b59, .ref b60, .ref b61, .ref b62, .ref b63]))]) := by
  refine MetI.of (own := RX12) rfl (by decide) (Nat.le_of_ble_eq_true rfl) ?_
  intro p e s m below meth c A ls args Q hQ X hr hin hW hl
  have hx := X.1
  have hb := X.2.1
  have hl : lv_has ls 1 [(0, .ref h0)] := hl
  refine lv_aload_n (pc := 0) hx hb dX12_look_0 rfl (lv_at hl 0 rfl) ?_
  refine c_Vi (pc := 1) (As := []) (rest := []) (wr := []) X hW 0 ciX12 rfl (C_X12_here l g h0 b1 b6 b7 b8 b9 b10 b11 b12 b13 b14 b15 b16 b17 b21 b22 b23 b24 b25 b26 b28 b29 b30 b31 b32 b33 b34 b35 b36 b46 b47 b48 b49 b50 b51 b52 b53 b54 b55 b56 b57 b58 b59 b60 b61 b62 b63) vX12_177 [0] [] rfl rfl rfl rfl rfl rfl hl.1 rfl (Nat.le_of_ble_eq_true rfl) ⟨Nat.le_of_ble_eq_true rfl, Nat.le_of_ble_eq_true rfl⟩ ⟨Nat.le_of_ble_eq_true rfl, Nat.le_of_ble_eq_true rfl⟩ dX12_look_1 (fun r1 u9 H locs hq hW => ?_)
  obtain ⟨rfl, rfl⟩ := hq
  have hW : WD g A s _ _ [(h0, .inr (12, [.int 0, .ref b1, .int 0, .int 0, .int (-1), .int 0, .ref b6, .ref b7, .ref b8, .ref b9, .ref b10, .ref b11, .ref b12, .ref b13, .ref b14, .ref b15, .ref b16, .ref b17, .int 0, .int (-1), .int (-1), .ref b21, .ref b22, .ref b23, .ref b24, .ref b25, .ref b26, .int 0, .ref b28, .ref b29, .ref b30, .ref b31, .ref b32, .ref b33, .ref b34, .ref b35, .ref b36, .int 0, .int 0, .int 0, .int 0, .int 0, .int 0, .int 0, .int 0, .int 0, .ref b46, .ref b47, .ref b48, .ref b49, .ref b50, .ref b51, .ref b52, .ref b53, .ref b54, .ref b55, .ref b56, .ref b57, .ref b58, .ref b59, .ref b60, .ref b61, .ref b62, .ref b63]))] := hW
  refine lv_bipush (v := 32) (pc := 4) hx hb dX12_look_4 (by decide) ?_
  refine lv_icmp_ne (tgt := 22) (pc := 6) hx hb dX12_look_6 rfl (fun c2 => ?_) (fun c2 => absurd c2 (by decide))
  refine lv_aload_n (pc := 22) hx hb dX12_look_22 rfl (lv_at hl 0 rfl) ?_
  refine c_Vi (pc := 23) (As := []) (rest := []) (wr := []) X hW 0 ciX12 rfl (C_X12_here l g h0 b1 b6 b7 b8 b9 b10 b11 b12 b13 b14 b15 b16 b17 b21 b22 b23 b24 b25 b26 b28 b29 b30 b31 b32 b33 b34 b35 b36 b46 b47 b48 b49 b50 b51 b52 b53 b54 b55 b56 b57 b58 b59 b60 b61 b62 b63) vX12_177 [0] [] rfl rfl rfl rfl rfl rfl hl.1 rfl (Nat.le_of_ble_eq_true rfl) ⟨Nat.le_of_ble_eq_true rfl, Nat.le_of_ble_eq_true rfl⟩ ⟨Nat.le_of_ble_eq_true rfl, Nat.le_of_ble_eq_true rfl⟩ dX12_look_23 (fun r3 u9 H locs hq hW => ?_)
  obtain ⟨rfl, rfl⟩ := hq
  have hW : WD g A s _ _ [(h0, .inr (12, [.int 0, .ref b1, .int 0, .int 0, .int (-1), .int 0, .ref b6, .ref b7, .ref b8, .ref b9, .ref b10, .ref b11, .ref b12, .ref b13, .ref b14, .ref b15, .ref b16, .ref b17, .int 0, .int (-1), .int (-1), .ref b21, .ref b22, .ref b23, .ref b24, .ref b25, .ref b26, .int 0, .ref b28, .ref b29, .ref b30, .ref b31, .ref b32, .ref b33, .ref b34, .ref b35, .ref b36, .int 0, .int 0, .int 0, .int 0, .int 0, .int 0, .int 0, .int 0, .int 0, .ref b46, .ref b47, .ref b48, .ref b49, .ref b50, .ref b51, .ref b52, .ref b53, .ref b54, .ref b55, .ref b56, .ref b57, .ref b58, .ref b59, .ref b60, .ref b61, .ref b62, .ref b63]))] := hW
  exact e_i X hQ hr hW (u := [(h0, .inr (12, [.int 0, .ref b1, .int 0, .int 0, .int (-1), .int 0, .ref b6, .ref b7, .ref b8, .ref b9, .ref b10, .ref b11, .ref b12, .ref b13, .ref b14, .ref b15, .ref b16, .ref b17, .int 0, .int (-1), .int (-1), .ref b21, .ref b22, .ref b23, .ref b24, .ref b25, .ref b26, .int 0, .ref b28, .ref b29, .ref b30, .ref b31, .ref b32, .ref b33, .ref b34, .ref b35, .ref b36, .int 0, .int 0, .int 0, .int 0, .int 0, .int 0, .int 0, .int 0, .int 0, .ref b46, .ref b47, .ref b48, .ref b49, .ref b50, .ref b51, .ref b52, .ref b53, .ref b54, .ref b55, .ref b56, .ref b57, .ref b58, .ref b59, .ref b60, .ref b61, .ref b62, .ref b63]))]) [0] rfl rfl (⟨rfl, rfl⟩) ⟨Nat.le_of_ble_eq_true rfl, Nat.le_of_ble_eq_true rfl⟩ dX12_look_26

set_option maxHeartbeats 4000000 in
set_option maxRecDepth 100000 in
theorem C_X12_fails (l : Launch) (g : GG) (h0 b1 b6 b7 b8 b9 b10 b11 b12 b13 b14 b15 b16 b17 b21 b22 b23 b24 b25 b26 b28 b29 b30 b31 b32 b33 b34 b35 b36 b46 b47 b48 b49 b50 b51 b52 b53 b54 b55 b56 b57 b58 b59 b60 b61 b62 b63 : Nat) : MetI l g yX12_fails cX12_fails 2 (some .boolean) 0 0 0 [.ref h0, .int 0] [(h0, .inr (12, [.int 0, .ref b1, .int 0, .int 0, .int (-1), .int 0, .ref b6, .ref b7, .ref b8, .ref b9, .ref b10, .ref b11, .ref b12, .ref b13, .ref b14, .ref b15, .ref b16, .ref b17, .int 0, .int (-1), .int (-1), .ref b21, .ref b22, .ref b23, .ref b24, .ref b25, .ref b26, .int 0, .ref b28, .ref b29, .ref b30, .ref b31, .ref b32, .ref b33, .ref b34, .ref b35, .ref b36, .int 0, .int 0, .int 0, .int 0, .int 0, .int 0, .int 0, .int 0, .int 0, .ref b46, .ref b47, .ref b48, .ref b49, .ref b50, .ref b51, .ref b52, .ref b53, .ref b54, .ref b55, .ref b56, .ref b57, .ref b58, .ref b59, .ref b60, .ref b61, .ref b62, .ref b63]))] (fun r u => r = (0) ∧ u = [(h0, .inr (12, [.int 0, .ref b1, .int 0, .int 0, .int 0, .int 0, .ref b6, .ref b7, .ref b8, .ref b9, .ref b10, .ref b11, .ref b12, .ref b13, .ref b14, .ref b15, .ref b16, .ref b17, .int 0, .int (-1), .int (-1), .ref b21, .ref b22, .ref b23, .ref b24, .ref b25, .ref b26, .int 0, .ref b28, .ref b29, .ref b30, .ref b31, .ref b32, .ref b33, .ref b34, .ref b35, .ref b36, .int 0, .int 0, .int 0, .int 0, .int 0, .int 0, .int 0, .int 0, .int 0, .ref b46, .ref b47, .ref b48, .ref b49, .ref b50, .ref b51, .ref b52, .ref b53, .ref b54, .ref b55, .ref b56, .ref b57, .ref b58, .ref b59, .ref b60, .ref b61, .ref b62, .ref b63]))]) := by
  refine MetI.of (own := RX12) rfl (by decide) (Nat.le_of_ble_eq_true rfl) ?_
  intro p e s m below meth c A ls args Q hQ X hr hin hW hl
  have hx := X.1
  have hb := X.2.1
  have hl : lv_has ls 2 [(0, .ref h0), (1, .int 0)] := hl
  refine lv_aload_n (pc := 0) hx hb dX12_fails_0 rfl (lv_at hl 0 rfl) ?_
  refine r_get X hW 0 ciX12 4 rfl (by decide) m_1235 rfl rfl dX12_fails_1 ?_
  refine lv_iconst (v := (-1)) (pc := 4) hx hb dX12_fails_4 (by decide) ?_
  refine lv_icmp_ne (tgt := 13) (pc := 5) hx hb dX12_fails_5 rfl (fun c1 => absurd (by decide) c1) (fun c1 => ?_)
  refine lv_aload_n (pc := 8) hx hb dX12_fails_8 rfl (lv_at hl 0 rfl) ?_
  refine lv_iload_n (pc := 9) hx hb dX12_fails_9 rfl (lv_at hl 1 rfl) ?_
  refine r_put (ws' := [(h0, .inr (12, [.int 0, .ref b1, .int 0, .int 0, .int 0, .int 0, .ref b6, .ref b7, .ref b8, .ref b9, .ref b10, .ref b11, .ref b12, .ref b13, .ref b14, .ref b15, .ref b16, .ref b17, .int 0, .int (-1), .int (-1), .ref b21, .ref b22, .ref b23, .ref b24, .ref b25, .ref b26, .int 0, .ref b28, .ref b29, .ref b30, .ref b31, .ref b32, .ref b33, .ref b34, .ref b35, .ref b36, .int 0, .int 0, .int 0, .int 0, .int 0, .int 0, .int 0, .int 0, .int 0, .ref b46, .ref b47, .ref b48, .ref b49, .ref b50, .ref b51, .ref b52, .ref b53, .ref b54, .ref b55, .ref b56, .ref b57, .ref b58, .ref b59, .ref b60, .ref b61, .ref b62, .ref b63]))]) X hW 0 ciX12 4 rfl (by decide) m_1235 rfl rfl rfl rfl (Nat.le_of_ble_eq_true rfl) rfl dX12_fails_10 (fun H locs hW => ?_)
  refine lv_iconst (v := 0) (pc := 13) hx hb dX12_fails_13 (by decide) ?_
  exact e_z X hQ hr hW (u := [(h0, .inr (12, [.int 0, .ref b1, .int 0, .int 0, .int 0, .int 0, .ref b6, .ref b7, .ref b8, .ref b9, .ref b10, .ref b11, .ref b12, .ref b13, .ref b14, .ref b15, .ref b16, .ref b17, .int 0, .int (-1), .int (-1), .ref b21, .ref b22, .ref b23, .ref b24, .ref b25, .ref b26, .int 0, .ref b28, .ref b29, .ref b30, .ref b31, .ref b32, .ref b33, .ref b34, .ref b35, .ref b36, .int 0, .int 0, .int 0, .int 0, .int 0, .int 0, .int 0, .int 0, .int 0, .ref b46, .ref b47, .ref b48, .ref b49, .ref b50, .ref b51, .ref b52, .ref b53, .ref b54, .ref b55, .ref b56, .ref b57, .ref b58, .ref b59, .ref b60, .ref b61, .ref b62, .ref b63]))]) rfl [0] rfl rfl (⟨rfl, rfl⟩) ⟨Nat.le_of_ble_eq_true rfl, Nat.le_of_ble_eq_true rfl⟩ dX12_fails_14

set_option maxHeartbeats 4000000 in
set_option maxRecDepth 100000 in
theorem C_X12_readValley (l : Launch) (g : GG) (h0 b1 b6 b7 b8 b9 b10 b11 b12 b13 b14 b15 b16 b17 b21 b22 b23 b24 b25 b26 b28 b29 b30 b31 b32 b33 b34 b35 b36 b46 b47 b48 b49 b50 b51 b52 b53 b54 b55 b56 b57 b58 b59 b60 b61 b62 b63 : Nat) : MetI l g yX12_readValley cX12_readValley 3 (some .boolean) 2 0 0 [.ref h0] [(h0, .inr (12, [.int 0, .ref b1, .int 0, .int 0, .int 0, .int 0, .ref b6, .ref b7, .ref b8, .ref b9, .ref b10, .ref b11, .ref b12, .ref b13, .ref b14, .ref b15, .ref b16, .ref b17, .int 0, .int (-1), .int (-1), .ref b21, .ref b22, .ref b23, .ref b24, .ref b25, .ref b26, .int 0, .ref b28, .ref b29, .ref b30, .ref b31, .ref b32, .ref b33, .ref b34, .ref b35, .ref b36, .int 0, .int 0, .int 0, .int 0, .int 0, .int 0, .int 0, .int 0, .int 0, .ref b46, .ref b47, .ref b48, .ref b49, .ref b50, .ref b51, .ref b52, .ref b53, .ref b54, .ref b55, .ref b56, .ref b57, .ref b58, .ref b59, .ref b60, .ref b61, .ref b62, .ref b63])), (b7, .inl (g.2.1 1, 11, .inl (fun _ => 0))), (b8, .inl (g.2.1 1, 11, .inl (fun _ => 0))), (b9, .inl (g.2.1 1, 44, .inl (fun _ => 0))), (b10, .inl (g.2.1 1, 44, .inl (fun _ => 0))), (b11, .inl (g.2.1 1, 44, .inl (fun _ => 0)))] (fun r u => r = (0) ∧ u = [(h0, .inr (12, [.int 0, .ref b1, .int 0, .int 0, .int 0, .int 0, .ref b6, .ref b7, .ref b8, .ref b9, .ref b10, .ref b11, .ref b12, .ref b13, .ref b14, .ref b15, .ref b16, .ref b17, .int 0, .int (-1), .int (-1), .ref b21, .ref b22, .ref b23, .ref b24, .ref b25, .ref b26, .int 0, .ref b28, .ref b29, .ref b30, .ref b31, .ref b32, .ref b33, .ref b34, .ref b35, .ref b36, .int 0, .int 0, .int 0, .int 0, .int 0, .int 0, .int 0, .int 0, .int 0, .ref b46, .ref b47, .ref b48, .ref b49, .ref b50, .ref b51, .ref b52, .ref b53, .ref b54, .ref b55, .ref b56, .ref b57, .ref b58, .ref b59, .ref b60, .ref b61, .ref b62, .ref b63]))]) := by
  refine MetI.of (own := RX12) rfl (by decide) (Nat.le_of_ble_eq_true rfl) ?_
  intro p e s m below meth c A ls args Q hQ X hr hin hW hl
  have hx := X.1
  have hb := X.2.1
  have hl : lv_has ls 3 [(0, .ref h0)] := hl
  refine lv_aload_n (pc := 0) hx hb dX12_readValley_0 rfl (lv_at hl 0 rfl) ?_
  refine r_get X hW 0 ciX12 18 rfl (by decide) m_1249 rfl rfl dX12_readValley_1 ?_
  refine lv_istore_n (lv' := [(1, .int 0), (0, .ref h0)]) (pc := 4) hx hb dX12_readValley_4 rfl hl (by decide) rfl (fun ls hl => ?_)
  refine lv_aload_n (pc := 5) hx hb dX12_readValley_5 rfl (lv_at hl 1 rfl) ?_
  refine lv_iconst (v := 0) (pc := 6) hx hb dX12_readValley_6 (by decide) ?_
  refine r_put (ws' := [(h0, .inr (12, [.int 0, .ref b1, .int 0, .int 0, .int 0, .int 0, .ref b6, .ref b7, .ref b8, .ref b9, .ref b10, .ref b11, .ref b12, .ref b13, .ref b14, .ref b15, .ref b16, .ref b17, .int 0, .int (-1), .int (-1), .ref b21, .ref b22, .ref b23, .ref b24, .ref b25, .ref b26, .int 0, .ref b28, .ref b29, .ref b30, .ref b31, .ref b32, .ref b33, .ref b34, .ref b35, .ref b36, .int 0, .int 0, .int 0, .int 0, .int 0, .int 0, .int 0, .int 0, .int 0, .ref b46, .ref b47, .ref b48, .ref b49, .ref b50, .ref b51, .ref b52, .ref b53, .ref b54, .ref b55, .ref b56, .ref b57, .ref b58, .ref b59, .ref b60, .ref b61, .ref b62, .ref b63])), (b7, .inl (g.2.1 1, 11, .inl (fun _ => 0))), (b8, .inl (g.2.1 1, 11, .inl (fun _ => 0))), (b9, .inl (g.2.1 1, 44, .inl (fun _ => 0))), (b10, .inl (g.2.1 1, 44, .inl (fun _ => 0))), (b11, .inl (g.2.1 1, 44, .inl (fun _ => 0)))]) X hW 0 ciX12 3 rfl (by decide) m_1234 rfl rfl rfl rfl (Nat.le_of_ble_eq_true rfl) rfl dX12_readValley_7 (fun H locs hW => ?_)
  refine lv_aload_n (pc := 10) hx hb dX12_readValley_10 rfl (lv_at hl 1 rfl) ?_
  refine lv_iconst (v := (-1)) (pc := 11) hx hb dX12_readValley_11 (by decide) ?_
  refine r_put (ws' := [(h0, .inr (12, [.int 0, .ref b1, .int 0, .int 0, .int (-1), .int 0, .ref b6, .ref b7, .ref b8, .ref b9, .ref b10, .ref b11, .ref b12, .ref b13, .ref b14, .ref b15, .ref b16, .ref b17, .int 0, .int (-1), .int (-1), .ref b21, .ref b22, .ref b23, .ref b24, .ref b25, .ref b26, .int 0, .ref b28, .ref b29, .ref b30, .ref b31, .ref b32, .ref b33, .ref b34, .ref b35, .ref b36, .int 0, .int 0, .int 0, .int 0, .int 0, .int 0, .int 0, .int 0, .int 0, .ref b46, .ref b47, .ref b48, .ref b49, .ref b50, .ref b51, .ref b52, .ref b53, .ref b54, .ref b55, .ref b56, .ref b57, .ref b58, .ref b59, .ref b60, .ref b61, .ref b62, .ref b63])), (b7, .inl (g.2.1 1, 11, .inl (fun _ => 0))), (b8, .inl (g.2.1 1, 11, .inl (fun _ => 0))), (b9, .inl (g.2.1 1, 44, .inl (fun _ => 0))), (b10, .inl (g.2.1 1, 44, .inl (fun _ => 0))), (b11, .inl (g.2.1 1, 44, .inl (fun _ => 0)))]) X hW 0 ciX12 4 rfl (by decide) m_1235 rfl rfl rfl rfl (Nat.le_of_ble_eq_true rfl) rfl dX12_readValley_12 (fun H locs hW => ?_)
  refine lv_aload_n (pc := 15) hx hb dX12_readValley_15 rfl (lv_at hl 1 rfl) ?_
  refine r_get X hW 0 ciX12 7 rfl (by decide) m_1238 rfl rfl dX12_readValley_16 ?_
  refine lv_iload_n (pc := 19) hx hb dX12_readValley_19 rfl (lv_at hl 0 rfl) ?_
  refine lv_iconst (v := 0) (pc := 20) hx hb dX12_readValley_20 (by decide) ?_
  obtain ⟨f1, ef1⟩ : ∃ fz : Nat → Int32, upd (fun _ => 0) (0 : Int32).toNatClampNeg 0 = fz := ⟨_, rfl⟩
  refine r_iast (ws' := [(h0, .inr (12, [.int 0, .ref b1, .int 0, .int 0, .int (-1), .int 0, .ref b6, .ref b7, .ref b8, .ref b9, .ref b10, .ref b11, .ref b12, .ref b13, .ref b14, .ref b15, .ref b16, .ref b17, .int 0, .int (-1), .int (-1), .ref b21, .ref b22, .ref b23, .ref b24, .ref b25, .ref b26, .int 0, .ref b28, .ref b29, .ref b30, .ref b31, .ref b32, .ref b33, .ref b34, .ref b35, .ref b36, .int 0, .int 0, .int 0, .int 0, .int 0, .int 0, .int 0, .int 0, .int 0, .ref b46, .ref b47, .ref b48, .ref b49, .ref b50, .ref b51, .ref b52, .ref b53, .ref b54, .ref b55, .ref b56, .ref b57, .ref b58, .ref b59, .ref b60, .ref b61, .ref b62, .ref b63])), (b7, .inl (g.2.1 1, 11, .inl f1)), (b8, .inl (g.2.1 1, 11, .inl (fun _ => 0))), (b9, .inl (g.2.1 1, 44, .inl (fun _ => 0))), (b10, .inl (g.2.1 1, 44, .inl (fun _ => 0))), (b11, .inl (g.2.1 1, 44, .inl (fun _ => 0)))]) X hW 1 rfl (vp_in_nI (n := 0) (by decide) (by decide)) ef1 rfl dX12_readValley_21 (fun H locs hW => ?_)
  refine lv_aload_n (pc := 22) hx hb dX12_readValley_22 rfl (lv_at hl 1 rfl) ?_
  refine r_get X hW 0 ciX12 8 rfl (by decide) m_1239 rfl rfl dX12_readValley_23 ?_
  refine lv_iload_n (pc := 26) hx hb dX12_readValley_26 rfl (lv_at hl 0 rfl) ?_
  refine lv_iconst (v := 0) (pc := 27) hx hb dX12_readValley_27 (by decide) ?_
  obtain ⟨f2, ef2⟩ : ∃ fz : Nat → Int32, upd (fun _ => 0) (0 : Int32).toNatClampNeg 0 = fz := ⟨_, rfl⟩
  refine r_iast (ws' := [(h0, .inr (12, [.int 0, .ref b1, .int 0, .int 0, .int (-1), .int 0, .ref b6, .ref b7, .ref b8, .ref b9, .ref b10, .ref b11, .ref b12, .ref b13, .ref b14, .ref b15, .ref b16, .ref b17, .int 0, .int (-1), .int (-1), .ref b21, .ref b22, .ref b23, .ref b24, .ref b25, .ref b26, .int 0, .ref b28, .ref b29, .ref b30, .ref b31, .ref b32, .ref b33, .ref b34, .ref b35, .ref b36, .int 0, .int 0, .int 0, .int 0, .int 0, .int 0, .int 0, .int 0, .int 0, .ref b46, .ref b47, .ref b48, .ref b49, .ref b50, .ref b51, .ref b52, .ref b53, .ref b54, .ref b55, .ref b56, .ref b57, .ref b58, .ref b59, .ref b60, .ref b61, .ref b62, .ref b63])), (b7, .inl (g.2.1 1, 11, .inl f1)), (b8, .inl (g.2.1 1, 11, .inl f2)), (b9, .inl (g.2.1 1, 44, .inl (fun _ => 0))), (b10, .inl (g.2.1 1, 44, .inl (fun _ => 0))), (b11, .inl (g.2.1 1, 44, .inl (fun _ => 0)))]) X hW 2 rfl (vp_in_nI (n := 0) (by decide) (by decide)) ef2 rfl dX12_readValley_28 (fun H locs hW => ?_)
  refine lv_iconst (v := 0) (pc := 29) hx hb dX12_readValley_29 (by decide) ?_
  refine lv_istore_n (lv' := [(2, .int 0), (1, .int 0), (0, .ref h0)]) (pc := 30) hx hb dX12_readValley_30 rfl hl (by decide) rfl (fun ls hl => ?_)
  refine lv_iload_n (pc := 31) hx hb dX12_readValley_31 rfl (lv_at hl 0 rfl) ?_
  refine lv_iconst (v := 4) (pc := 32) hx hb dX12_readValley_32 (by decide) ?_
  refine lv_icmp_ge (tgt := 75) (pc := 33) hx hb dX12_readValley_33 rfl (fun c3 => absurd c3 (by decide)) (fun c3 => ?_)
  refine lv_aload_n (pc := 36) hx hb dX12_readValley_36 rfl (lv_at hl 2 rfl) ?_
  refine r_get X hW 0 ciX12 9 rfl (by decide) m_1240 rfl rfl dX12_readValley_37 ?_
  refine lv_iconst (v := 4) (pc := 40) hx hb dX12_readValley_40 (by decide) ?_
  refine lv_iload_n (pc := 41) hx hb dX12_readValley_41 rfl (lv_at hl 1 rfl) ?_
  refine lv_imul (pc := 42) hx hb dX12_readValley_42 ?_
  refine lv_topi (fun v4 ev4 => ?_)
  obtain rfl : v4 = 0 := ev4.trans (by decide +kernel)
  refine lv_iload_n (pc := 43) hx hb dX12_readValley_43 rfl (lv_at hl 0 rfl) ?_
  refine lv_iadd (pc := 44) hx hb dX12_readValley_44 ?_
  refine lv_topi (fun v5 ev5 => ?_)
  obtain rfl : v5 = 0 := ev5.trans (by decide +kernel)
  refine lv_iconst (v := 0) (pc := 45) hx hb dX12_readValley_45 (by decide) ?_
  obtain ⟨f6, ef6⟩ : ∃ fz : Nat → Int32, upd (fun _ => 0) (0 : Int32).toNatClampNeg 0 = fz := ⟨_, rfl⟩
  refine r_iast (ws' := [(h0, .inr (12, [.int 0, .ref b1, .int 0, .int 0, .int (-1), .int 0, .ref b6, .ref b7, .ref b8, .ref b9, .ref b10, .ref b11, .ref b12, .ref b13, .ref b14, .ref b15, .ref b16, .ref b17, .int 0, .int (-1), .int (-1), .ref b21, .ref b22, .ref b23, .ref b24, .ref b25, .ref b26, .int 0, .ref b28, .ref b29, .ref b30, .ref b31, .ref b32, .ref b33, .ref b34, .ref b35, .ref b36, .int 0, .int 0, .int 0, .int 0, .int 0, .int 0, .int 0, .int 0, .int 0, .ref b46, .ref b47, .ref b48, .ref b49, .ref b50, .ref b51, .ref b52, .ref b53, .ref b54, .ref b55, .ref b56, .ref b57, .ref b58, .ref b59, .ref b60, .ref b61, .ref b62, .ref b63])), (b7, .inl (g.2.1 1, 11, .inl f1)), (b8, .inl (g.2.1 1, 11, .inl f2)), (b9, .inl (g.2.1 1, 44, .inl f6)), (b10, .inl (g.2.1 1, 44, .inl (fun _ => 0))), (b11, .inl (g.2.1 1, 44, .inl (fun _ => 0)))]) X hW 3 rfl (vp_in_nI (n := 0) (by decide) (by decide)) ef6 rfl dX12_readValley_46 (fun H locs hW => ?_)
  refine lv_aload_n (pc := 47) hx hb dX12_readValley_47 rfl (lv_at hl 2 rfl) ?_
  refine r_get X hW 0 ciX12 10 rfl (by decide) m_1241 rfl rfl dX12_readValley_48 ?_
  refine lv_iconst (v := 4) (pc := 51) hx hb dX12_readValley_51 (by decide) ?_
  refine lv_iload_n (pc := 52) hx hb dX12_readValley_52 rfl (lv_at hl 1 rfl) ?_
  refine lv_imul (pc := 53) hx hb dX12_readValley_53 ?_
  refine lv_topi (fun v7 ev7 => ?_)
  obtain rfl : v7 = 0 := ev7.trans (by decide +kernel)
  refine lv_iload_n (pc := 54) hx hb dX12_readValley_54 rfl (lv_at hl 0 rfl) ?_
  refine lv_iadd (pc := 55) hx hb dX12_readValley_55 ?_
  refine lv_topi (fun v8 ev8 => ?_)
  obtain rfl : v8 = 0 := ev8.trans (by decide +kernel)
  refine lv_iconst (v := 0) (pc := 56) hx hb dX12_readValley_56 (by decide) ?_
  obtain ⟨f9, ef9⟩ : ∃ fz : Nat → Int32, upd (fun _ => 0) (0 : Int32).toNatClampNeg 0 = fz := ⟨_, rfl⟩
  refine r_iast (ws' := [(h0, .inr (12, [.int 0, .ref b1, .int 0, .int 0, .int (-1), .int 0, .ref b6, .ref b7, .ref b8, .ref b9, .ref b10, .ref b11, .ref b12, .ref b13, .ref b14, .ref b15, .ref b16, .ref b17, .int 0, .int (-1), .int (-1), .ref b21, .ref b22, .ref b23, .ref b24, .ref b25, .ref b26, .int 0, .ref b28, .ref b29, .ref b30, .ref b31, .ref b32, .ref b33, .ref b34, .ref b35, .ref b36, .int 0, .int 0, .int 0, .int 0, .int 0, .int 0, .int 0, .int 0, .int 0, .ref b46, .ref b47, .ref b48, .ref b49, .ref b50, .ref b51, .ref b52, .ref b53, .ref b54, .ref b55, .ref b56, .ref b57, .ref b58, .ref b59, .ref b60, .ref b61, .ref b62, .ref b63])), (b7, .inl (g.2.1 1, 11, .inl f1)), (b8, .inl (g.2.1 1, 11, .inl f2)), (b9, .inl (g.2.1 1, 44, .inl f6)), (b10, .inl (g.2.1 1, 44, .inl f9)), (b11, .inl (g.2.1 1, 44, .inl (fun _ => 0)))]) X hW 4 rfl (vp_in_nI (n := 0) (by decide) (by decide)) ef9 rfl dX12_readValley_57 (fun H locs hW => ?_)
  refine lv_aload_n (pc := 58) hx hb dX12_readValley_58 rfl (lv_at hl 2 rfl) ?_
  refine r_get X hW 0 ciX12 11 rfl (by decide) m_1242 rfl rfl dX12_readValley_59 ?_
  refine lv_iconst (v := 4) (pc := 62) hx hb dX12_readValley_62 (by decide) ?_
  refine lv_iload_n (pc := 63) hx hb dX12_readValley_63 rfl (lv_at hl 1 rfl) ?_
  refine lv_imul (pc := 64) hx hb dX12_readValley_64 ?_
  refine lv_topi (fun v10 ev10 => ?_)
  obtain rfl : v10 = 0 := ev10.trans (by decide +kernel)
  refine lv_iload_n (pc := 65) hx hb dX12_readValley_65 rfl (lv_at hl 0 rfl) ?_
  refine lv_iadd (pc := 66) hx hb dX12_readValley_66 ?_
  refine lv_topi (fun v11 ev11 => ?_)
  obtain rfl : v11 = 0 := ev11.trans (by decide +kernel)
  refine lv_iconst (v := 0) (pc := 67) hx hb dX12_readValley_67 (by decide) ?_
  obtain ⟨f12, ef12⟩ : ∃ fz : Nat → Int32, upd (fun _ => 0) (0 : Int32).toNatClampNeg 0 = fz := ⟨_, rfl⟩
  refine r_iast (ws' := [(h0, .inr (12, [.int 0, .ref b1, .int 0, .int 0, .int (-1), .int 0, .ref b6, .ref b7, .ref b8, .ref b9, .ref b10, .ref b11, .ref b12, .ref b13, .ref b14, .ref b15, .ref b16, .ref b17, .int 0, .int (-1), .int (-1), .ref b21, .ref b22, .ref b23, .ref b24, .ref b25, .ref b26, .int 0, .ref b28, .ref b29, .ref b30, .ref b31, .ref b32, .ref b33, .ref b34, .ref b35, .ref b36, .int 0, .int 0, .int 0, .int 0, .int 0, .int 0, .int 0, .int 0, .int 0, .ref b46, .ref b47, .ref b48, .ref b49, .ref b50, .ref b51, .ref b52, .ref b53, .ref b54, .ref b55, .ref b56, .ref b57, .ref b58, .ref b59, .ref b60, .ref b61, .ref b62, .ref b63])), (b7, .inl (g.2.1 1, 11, .inl f1)), (b8, .inl (g.2.1 1, 11, .inl f2)), (b9, .inl (g.2.1 1, 44, .inl f6)), (b10, .inl (g.2.1 1, 44, .inl f9)), (b11, .inl (g.2.1 1, 44, .inl f12))]) X hW 5 rfl (vp_in_nI (n := 0) (by decide) (by decide)) ef12 rfl dX12_readValley_68 (fun H locs hW => ?_)
  refine lv_iinc (v := 1) (lv' := [(2, .int 1), (1, .int 0), (0, .ref h0)]) (pc := 69) hx hb dX12_readValley_69 hl (k := 0) rfl (by decide +kernel) (by decide) rfl (fun ls hl => ?_)
  refine lv_goto (tgt := 31) (pc := 72) hx hb dX12_readValley_72 rfl ?_
  refine lv_iload_n (pc := 31) hx hb dX12_readValley_31 rfl (lv_at hl 0 rfl) ?_
  refine lv_iconst (v := 4) (pc := 32) hx hb dX12_readValley_32 (by decide) ?_
  refine lv_icmp_ge (tgt := 75) (pc := 33) hx hb dX12_readValley_33 rfl (fun c13 => absurd c13 (by decide)) (fun c13 => ?_)
  refine lv_aload_n (pc := 36) hx hb dX12_readValley_36 rfl (lv_at hl 2 rfl) ?_
  refine r_get X hW 0 ciX12 9 rfl (by decide) m_1240 rfl rfl dX12_readValley_37 ?_
  refine lv_iconst (v := 4) (pc := 40) hx hb dX12_readValley_40 (by decide) ?_
  refine lv_iload_n (pc := 41) hx hb dX12_readValley_41 rfl (lv_at hl 1 rfl) ?_
  refine lv_imul (pc := 42) hx hb dX12_readValley_42 ?_
  refine lv_topi (fun v14 ev14 => ?_)
  obtain rfl : v14 = 0 := ev14.trans (by decide +kernel)
  refine lv_iload_n (pc := 43) hx hb dX12_readValley_43 rfl (lv_at hl 0 rfl) ?_
  refine lv_iadd (pc := 44) hx hb dX12_readValley_44 ?_
  refine lv_topi (fun v15 ev15 => ?_)
  obtain rfl : v15 = 1 := ev15.trans (by decide +kernel)
  refine lv_iconst (v := 0) (pc := 45) hx hb dX12_readValley_45 (by decide) ?_
  obtain ⟨f16, ef16⟩ : ∃ fz : Nat → Int32, upd f6 (1 : Int32).toNatClampNeg 0 = fz := ⟨_, rfl⟩
  refine r_iast (ws' := [(h0, .inr (12, [.int 0, .ref b1, .int 0, .int 0, .int (-1), .int 0, .ref b6, .ref b7, .ref b8, .ref b9, .ref b10, .ref b11, .ref b12, .ref b13, .ref b14, .ref b15, .ref b16, .ref b17, .int 0, .int (-1), .int (-1), .ref b21, .ref b22, .ref b23, .ref b24, .ref b25, .ref b26, .int 0, .ref b28, .ref b29, .ref b30, .ref b31, .ref b32, .ref b33, .ref b34, .ref b35, .ref b36, .int 0, .int 0, .int 0, .int 0, .int 0, .int 0, .int 0, .int 0, .int 0, .ref b46, .ref b47, .ref b48, .ref b49, .ref b50, .ref b51, .ref b52, .ref b53, .ref b54, .ref b55, .ref b56, .ref b57, .ref b58, .ref b59, .ref b60, .ref b61, .ref b62, .ref b63])), (b7, .inl (g.2.1 1, 11, .inl f1)), (b8, .inl (g.2.1 1, 11, .inl f2)), (b9, .inl (g.2.1 1, 44, .inl f16)), (b10, .inl (g.2.1 1, 44, .inl f9)), (b11, .inl (g.2.1 1, 44, .inl f12))]) X hW 3 rfl (vp_in_nI (n := 1) (by decide) (by decide)) ef16 rfl dX12_readValley_46 (fun H locs hW => ?_)
  refine lv_aload_n (pc := 47) hx hb dX12_readValley_47 rfl (lv_at hl 2 rfl) ?_
  refine r_get X hW 0 ciX12 10 rfl (by decide) m_1241 rfl rfl dX12_readValley_48 ?_
  refine lv_iconst (v := 4) (pc := 51) hx hb dX12_readValley_51 (by decide) ?_
  refine lv_iload_n (pc := 52) hx hb dX12_readValley_52 rfl (lv_at hl 1 rfl) ?_
  refine lv_imul (pc := 53) hx hb dX12_readValley_53 ?_
  refine lv_topi (fun v17 ev17 => ?_)
  obtain rfl : v17 = 0 := ev17.trans (by decide +kernel)
  refine lv_iload_n (pc := 54) hx hb dX12_readValley_54 rfl (lv_at hl 0 rfl) ?_
  refine lv_iadd (pc := 55) hx hb dX12_readValley_55 ?_
  refine lv_topi (fun v18 ev18 => ?_)
  obtain rfl : v18 = 1 := ev18.trans (by decide +kernel)
  refine lv_iconst (v := 0) (pc := 56) hx hb dX12_readValley_56 (by decide) ?_
  obtain ⟨f19, ef19⟩ : ∃ fz : Nat → Int32, upd f9 (1 : Int32).toNatClampNeg 0 = fz := ⟨_, rfl⟩
  refine r_iast (ws' := [(h0, .inr (12, [.int 0, .ref b1, .int 0, .int 0, .int (-1), .int 0, .ref b6, .ref b7, .ref b8, .ref b9, .ref b10, .ref b11, .ref b12, .ref b13, .ref b14, .ref b15, .ref b16, .ref b17, .int 0, .int (-1), .int (-1), .ref b21, .ref b22, .ref b23, .ref b24, .ref b25, .ref b26, .int 0, .ref b28, .ref b29, .ref b30, .ref b31, .ref b32, .ref b33, .ref b34, .ref b35, .ref b36, .int 0, .int 0, .int 0, .int 0, .int 0, .int 0, .int 0, .int 0, .int 0, .ref b46, .ref b47, .ref b48, .ref b49, .ref b50, .ref b51, .ref b52, .ref b53, .ref b54, .ref b55, .ref b56, .ref b57, .ref b58, .ref b59, .ref b60, .ref b61, .ref b62, .ref b63])), (b7, .inl (g.2.1 1, 11, .inl f1)), (b8, .inl (g.2.1 1, 11, .inl f2)), (b9, .inl (g.2.1 1, 44, .inl f16)), (b10, .inl (g.2.1 1, 44, .inl f19)), (b11, .inl (g.2.1 1, 44, .inl f12))]) X hW 4 rfl (vp_in_nI (n := 1) (by decide) (by decide)) ef19 rfl dX12_readValley_57 (fun H locs hW => ?_)
  refine lv_aload_n (pc := 58) hx hb dX12_readValley_58 rfl (lv_at hl 2 rfl) ?_
  refine r_get X hW 0 ciX12 11 rfl (by decide) m_1242 rfl rfl dX12_readValley_59 ?_
  refine lv_iconst (v := 4) (pc := 62) hx hb dX12_readValley_62 (by decide) ?_
  refine lv_iload_n (pc := 63) hx hb dX12_readValley_63 rfl (lv_at hl 1 rfl) ?_
  refine lv_imul (pc := 64) hx hb dX12_readValley_64 ?_
  refine lv_topi (fun v20 ev20 => ?_)
  obtain rfl : v20 = 0 := ev20.trans (by decide +kernel)
  refine lv_iload_n (pc := 65) hx hb dX12_readValley_65 rfl (lv_at hl 0 rfl) ?_
  refine lv_iadd (pc := 66) hx hb dX12_readValley_66 ?_
  refine lv_topi (fun v21 ev21 => ?_)
  obtain rfl : v21 = 1 := ev21.trans (by decide +kernel)
  refine lv_iconst (v := 0) (pc := 67) hx hb dX12_readValley_67 (by decide) ?_
  obtain ⟨f22, ef22⟩ : ∃ fz : Nat → Int32, upd f12 (1 : Int32).toNatClampNeg 0 = fz := ⟨_, rfl⟩
  refine r_iast (ws' := [(h0, .inr (12, [.int 0, .ref b1, .int 0, .int 0, .int (-1), .int 0, .ref b6, .ref b7, .ref b8, .ref b9, .ref b10, .ref b11, .ref b12, .ref b13, .ref b14, .ref b15, .ref b16, .ref b17, .int 0, .int (-1), .int (-1), .ref b21, .ref b22, .ref b23, .ref b24, .ref b25, .ref b26, .int 0, .ref b28, .ref b29, .ref b30, .ref b31, .ref b32, .ref b33, .ref b34, .ref b35, .ref b36, .int 0, .int 0, .int 0, .int 0, .int 0, .int 0, .int 0, .int 0, .int 0, .ref b46, .ref b47, .ref b48, .ref b49, .ref b50, .ref b51, .ref b52, .ref b53, .ref b54, .ref b55, .ref b56, .ref b57, .ref b58, .ref b59, .ref b60, .ref b61, .ref b62, .ref b63])), (b7, .inl (g.2.1 1, 11, .inl f1)), (b8, .inl (g.2.1 1, 11, .inl f2)), (b9, .inl (g.2.1 1, 44, .inl f16)), (b10, .inl (g.2.1 1, 44, .inl f19)), (b11, .inl (g.2.1 1, 44, .inl f22))]) X hW 5 rfl (vp_in_nI (n := 1) (by decide) (by decide)) ef22 rfl dX12_readValley_68 (fun H locs hW => ?_)
  refine lv_iinc (v := 2) (lv' := [(2, .int 2), (1, .int 0), (0, .ref h0)]) (pc := 69) hx hb dX12_readValley_69 hl (k := 0) rfl (by decide +kernel) (by decide) rfl (fun ls hl => ?_)
  refine lv_goto (tgt := 31) (pc := 72) hx hb dX12_readValley_72 rfl ?_
  refine lv_iload_n (pc := 31) hx hb dX12_readValley_31 rfl (lv_at hl 0 rfl) ?_
  refine lv_iconst (v := 4) (pc := 32) hx hb dX12_readValley_32 (by decide) ?_
  refine lv_icmp_ge (tgt := 75) (pc := 33) hx hb dX12_readValley_33 rfl (fun c23 => absurd c23 (by decide)) (fun c23 => ?_)
  refine lv_aload_n (pc := 36) hx hb dX12_readValley_36 rfl (lv_at hl 2 rfl) ?_
  refine r_get X hW 0 ciX12 9 rfl (by decide) m_1240 rfl rfl dX12_readValley_37 ?_
  refine lv_iconst (v := 4) (pc := 40) hx hb dX12_readValley_40 (by decide) ?_
  refine lv_iload_n (pc := 41) hx hb dX12_readValley_41 rfl (lv_at hl 1 rfl) ?_
  refine lv_imul (pc := 42) hx hb dX12_readValley_42 ?_
  refine lv_topi (fun v24 ev24 => ?_)
  obtain rfl : v24 = 0 := ev24.trans (by decide +kernel)
  refine lv_iload_n (pc := 43) hx hb dX12_readValley_43 rfl (lv_at hl 0 rfl) ?_
  refine lv_iadd (pc := 44) hx hb dX12_readValley_44 ?_
  refine lv_topi (fun v25 ev25 => ?_)
  obtain rfl : v25 = 2 := ev25.trans (by decide +kernel)
  refine lv_iconst (v := 0) (pc := 45) hx hb dX12_readValley_45 (by decide) ?_
  obtain ⟨f26, ef26⟩ : ∃ fz : Nat → Int32, upd f16 (2 : Int32).toNatClampNeg 0 = fz := ⟨_, rfl⟩
  refine r_iast (ws' := [(h0, .inr (12, [.int 0, .ref b1, .int 0, .int 0, .int (-1), .int 0, .ref b6, .ref b7, .ref b8, .ref b9, .ref b10, .ref b11, .ref b12, .ref b13, .ref b14, .ref b15, .ref b16, .ref b17, .int 0, .int (-1), .int (-1), .ref b21, .ref b22, .ref b23, .ref b24, .ref b25, .ref b26, .int 0, .ref b28, .ref b29, .ref b30, .ref b31, .ref b32, .ref b33, .ref b34, .ref b35, .ref b36, .int 0, .int 0, .int 0, .int 0, .int 0, .int 0, .int 0, .int 0, .int 0, .ref b46, .ref b47, .ref b48, .ref b49, .ref b50, .ref b51, .ref b52, .ref b53, .ref b54, .ref b55, .ref b56, .ref b57, .ref b58, .ref b59, .ref b60, .ref b61, .ref b62, .ref b63])), (b7, .inl (g.2.1 1, 11, .inl f1)), (b8, .inl (g.2.1 1, 11, .inl f2)), (b9, .inl (g.2.1 1, 44, .inl f26)), (b10, .inl (g.2.1 1, 44, .inl f19)), (b11, .inl (g.2.1 1, 44, .inl f22))]) X hW 3 rfl (vp_in_nI (n := 2) (by decide) (by decide)) ef26 rfl dX12_readValley_46 (fun H locs hW => ?_)
  refine lv_aload_n (pc := 47) hx hb dX12_readValley_47 rfl (lv_at hl 2 rfl) ?_
  refine r_get X hW 0 ciX12 10 rfl (by decide) m_1241 rfl rfl dX12_readValley_48 ?_
  refine lv_iconst (v := 4) (pc := 51) hx hb dX12_readValley_51 (by decide) ?_
  refine lv_iload_n (pc := 52) hx hb dX12_readValley_52 rfl (lv_at hl 1 rfl) ?_
  refine lv_imul (pc := 53) hx hb dX12_readValley_53 ?_
  refine lv_topi (fun v27 ev27 => ?_)
  obtain rfl : v27 = 0 := ev27.trans (by decide +kernel)
  refine lv_iload_n (pc := 54) hx hb dX12_readValley_54 rfl (lv_at hl 0 rfl) ?_
  refine lv_iadd (pc := 55) hx hb dX12_readValley_55 ?_
  refine lv_topi (fun v28 ev28 => ?_)
  obtain rfl : v28 = 2 := ev28.trans (by decide +kernel)
  refine lv_iconst (v := 0) (pc := 56) hx hb dX12_readValley_56 (by decide) ?_
  obtain ⟨f29, ef29⟩ : ∃ fz : Nat → Int32, upd f19 (2 : Int32).toNatClampNeg 0 = fz := ⟨_, rfl⟩
  refine r_iast (ws' := [(h0, .inr (12, [.int 0, .ref b1, .int 0, .int 0, .int (-1), .int 0, .ref b6, .ref b7, .ref b8, .ref b9, .ref b10, .ref b11, .ref b12, .ref b13, .ref b14, .ref b15, .ref b16, .ref b17, .int 0, .int (-1), .int (-1), .ref b21, .ref b22, .ref b23, .ref b24, .ref b25, .ref b26, .int 0, .ref b28, .ref b29, .ref b30, .ref b31, .ref b32, .ref b33, .ref b34, .ref b35, .ref b36, .int 0, .int 0, .int 0, .int 0, .int 0, .int 0, .int 0, .int 0, .int 0, .ref b46, .ref b47, .ref b48, .ref b49, .ref b50, .ref b51, .ref b52, .ref b53, .ref b54, .ref b55, .ref b56, .ref b57, .ref b58, .ref b59, .ref b60, .ref b61, .ref b62, .ref b63])), (b7, .inl (g.2.1 1, 11, .inl f1)), (b8, .inl (g.2.1 1, 11, .inl f2)), (b9, .inl (g.2.1 1, 44, .inl f26)), (b10, .inl (g.2.1 1, 44, .inl f29)), (b11, .inl (g.2.1 1, 44, .inl f22))]) X hW 4 rfl (vp_in_nI (n := 2) (by decide) (by decide)) ef29 rfl dX12_readValley_57 (fun H locs hW => ?_)
  refine lv_aload_n (pc := 58) hx hb dX12_readValley_58 rfl (lv_at hl 2 rfl) ?_
  refine r_get X hW 0 ciX12 11 rfl (by decide) m_1242 rfl rfl dX12_readValley_59 ?_
  refine lv_iconst (v := 4) (pc := 62) hx hb dX12_readValley_62 (by decide) ?_
  refine lv_iload_n (pc := 63) hx hb dX12_readValley_63 rfl (lv_at hl 1 rfl) ?_
  refine lv_imul (pc := 64) hx hb dX12_readValley_64 ?_
  refine lv_topi (fun v30 ev30 => ?_)
  obtain rfl : v30 = 0 := ev30.trans (by decide +kernel)
  refine lv_iload_n (pc := 65) hx hb dX12_readValley_65 rfl (lv_at hl 0 rfl) ?_
  refine lv_iadd (pc := 66) hx hb dX12_readValley_66 ?_
  refine lv_topi (fun v31 ev31 => ?_)
  obtain rfl : v31 = 2 := ev31.trans (by decide +kernel)
  refine lv_iconst (v := 0) (pc := 67) hx hb dX12_readValley_67 (by decide) ?_
  obtain ⟨f32, ef32⟩ : ∃ fz : Nat → Int32, upd f22 (2 : Int32).toNatClampNeg 0 = fz := ⟨_, rfl⟩
  refine r_iast (ws' := [(h0, .inr (12, [.int 0, .ref b1, .int 0, .int 0, .int (-1), .int 0, .ref b6, .ref b7, .ref b8, .ref b9, .ref b10, .ref b11, .ref b12, .ref b13, .ref b14, .ref b15, .ref b16, .ref b17, .int 0, .int (-1), .int (-1), .ref b21, .ref b22, .ref b23, .ref b24, .ref b25, .ref b26, .int 0, .ref b28, .ref b29, .ref b30, .ref b31, .ref b32, .ref b33, .ref b34, .ref b35, .ref b36, .int 0, .int 0, .int 0, .int 0, .int 0, .int 0, .int 0, .int 0, .int 0, .ref b46, .ref b47, .ref b48, .ref b49, .ref b50, .ref b51, .ref b52, .ref b53, .ref b54, .ref b55, .ref b56, .ref b57, .ref b58, .ref b59, .ref b60, .ref b61, .ref b62, .ref b63])), (b7, .inl (g.2.1 1, 11, .inl f1)), (b8, .inl (g.2.1 1, 11, .inl f2)), (b9, .inl (g.2.1 1, 44, .inl f26)), (b10, .inl (g.2.1 1, 44, .inl f29)), (b11, .inl (g.2.1 1, 44, .inl f32))]) X hW 5 rfl (vp_in_nI (n := 2) (by decide) (by decide)) ef32 rfl dX12_readValley_68 (fun H locs hW => ?_)
  refine lv_iinc (v := 3) (lv' := [(2, .int 3), (1, .int 0), (0, .ref h0)]) (pc := 69) hx hb dX12_readValley_69 hl (k := 0) rfl (by decide +kernel) (by decide) rfl (fun ls hl => ?_)
  refine lv_goto (tgt := 31) (pc := 72) hx hb dX12_readValley_72 rfl ?_
  refine lv_iload_n (pc := 31) hx hb dX12_readValley_31 rfl (lv_at hl 0 rfl) ?_
  refine lv_iconst (v := 4) (pc := 32) hx hb dX12_readValley_32 (by decide) ?_
  refine lv_icmp_ge (tgt := 75) (pc := 33) hx hb dX12_readValley_33 rfl (fun c33 => absurd c33 (by decide)) (fun c33 => ?_)
  refine lv_aload_n (pc := 36) hx hb dX12_readValley_36 rfl (lv_at hl 2 rfl) ?_
  refine r_get X hW 0 ciX12 9 rfl (by decide) m_1240 rfl rfl dX12_readValley_37 ?_
  refine lv_iconst (v := 4) (pc := 40) hx hb dX12_readValley_40 (by decide) ?_
  refine lv_iload_n (pc := 41) hx hb dX12_readValley_41 rfl (lv_at hl 1 rfl) ?_
  refine lv_imul (pc := 42) hx hb dX12_readValley_42 ?_
  refine lv_topi (fun v34 ev34 => ?_)
  obtain rfl : v34 = 0 := ev34.trans (by decide +kernel)
  refine lv_iload_n (pc := 43) hx hb dX12_readValley_43 rfl (lv_at hl 0 rfl) ?_
  refine lv_iadd (pc := 44) hx hb dX12_readValley_44 ?_
  refine lv_topi (fun v35 ev35 => ?_)
  obtain rfl : v35 = 3 := ev35.trans (by decide +kernel)
  refine lv_iconst (v := 0) (pc := 45) hx hb dX12_readValley_45 (by decide) ?_
  obtain ⟨f36, ef36⟩ : ∃ fz : Nat → Int32, upd f26 (3 : Int32).toNatClampNeg 0 = fz := ⟨_, rfl⟩
  refine r_iast (ws' := [(h0, .inr (12, [.int 0, .ref b1, .int 0, .int 0, .int (-1), .int 0, .ref b6, .ref b7, .ref b8, .ref b9, .ref b10, .ref b11, .ref b12, .ref b13, .ref b14, .ref b15, .ref b16, .ref b17, .int 0, .int (-1), .int (-1), .ref b21, .ref b22, .ref b23, .ref b24, .ref b25, .ref b26, .int 0, .ref b28, .ref b29, .ref b30, .ref b31, .ref b32, .ref b33, .ref b34, .ref b35, .ref b36, .int 0, .int 0, .int 0, .int 0, .int 0, .int 0, .int 0, .int 0, .int 0, .ref b46, .ref b47, .ref b48, .ref b49, .ref b50, .ref b51, .ref b52, .ref b53, .ref b54, .ref b55, .ref b56, .ref b57, .ref b58, .ref b59, .ref b60, .ref b61, .ref b62, .ref b63])), (b7, .inl (g.2.1 1, 11, .inl f1)), (b8, .inl (g.2.1 1, 11, .inl f2)), (b9, .inl (g.2.1 1, 44, .inl f36)), (b10, .inl (g.2.1 1, 44, .inl f29)), (b11, .inl (g.2.1 1, 44, .inl f32))]) X hW 3 rfl (vp_in_nI (n := 3) (by decide) (by decide)) ef36 rfl dX12_readValley_46 (fun H locs hW => ?_)
  refine lv_aload_n (pc := 47) hx hb dX12_readValley_47 rfl (lv_at hl 2 rfl) ?_
  refine r_get X hW 0 ciX12 10 rfl (by decide) m_1241 rfl rfl dX12_readValley_48 ?_
  refine lv_iconst (v := 4) (pc := 51) hx hb dX12_readValley_51 (by decide) ?_
  refine lv_iload_n (pc := 52) hx hb dX12_readValley_52 rfl (lv_at hl 1 rfl) ?_
  refine lv_imul (pc := 53) hx hb dX12_readValley_53 ?_
  refine lv_topi (fun v37 ev37 => ?_)
  obtain rfl : v37 = 0 := ev37.trans (by decide +kernel)
  refine lv_iload_n (pc := 54) hx hb dX12_readValley_54 rfl (lv_at hl 0 rfl) ?_
  refine lv_iadd (pc := 55) hx hb dX12_readValley_55 ?_
  refine lv_topi (fun v38 ev38 => ?_)
  obtain rfl : v38 = 3 := ev38.trans (by decide +kernel)
  refine lv_iconst (v := 0) (pc := 56) hx hb dX12_readValley_56 (by decide) ?_
  obtain ⟨f39, ef39⟩ : ∃ fz : Nat → Int32, upd f29 (3 : Int32).toNatClampNeg 0 = fz := ⟨_, rfl⟩
  refine r_iast (ws' := [(h0, .inr (12, [.int 0, .ref b1, .int 0, .int 0, .int (-1), .int 0, .ref b6, .ref b7, .ref b8, .ref b9, .ref b10, .ref b11, .ref b12, .ref b13, .ref b14, .ref b15, .ref b16, .ref b17, .int 0, .int (-1), .int (-1), .ref b21, .ref b22, .ref b23, .ref b24, .ref b25, .ref b26, .int 0, .ref b28, .ref b29, .ref b30, .ref b31, .ref b32, .ref b33, .ref b34, .ref b35, .ref b36, .int 0, .int 0, .int 0, .int 0, .int 0, .int 0, .int 0, .int 0, .int 0, .ref b46, .ref b47, .ref b48, .ref b49, .ref b50, .ref b51, .ref b52, .ref b53, .ref b54, .ref b55, .ref b56, .ref b57, .ref b58, .ref b59, .ref b60, .ref b61, .ref b62, .ref b63])), (b7, .inl (g.2.1 1, 11, .inl f1)), (b8, .inl (g.2.1 1, 11, .inl f2)), (b9, .inl (g.2.1 1, 44, .inl f36)), (b10, .inl (g.2.1 1, 44, .inl f39)), (b11, .inl (g.2.1 1, 44, .inl f32))]) X hW 4 rfl (vp_in_nI (n := 3) (by decide) (by decide)) ef39 rfl dX12_readValley_57 (fun H locs hW => ?_)
  refine lv_aload_n (pc := 58) hx hb dX12_readValley_58 rfl (lv_at hl 2 rfl) ?_
  refine r_get X hW 0 ciX12 11 rfl (by decide) m_1242 rfl rfl dX12_readValley_59 ?_
  refine lv_iconst (v := 4) (pc := 62) hx hb dX12_readValley_62 (by decide) ?_
  refine lv_iload_n (pc := 63) hx hb dX12_readValley_63 rfl (lv_at hl 1 rfl) ?_
  refine lv_imul (pc := 64) hx hb dX12_readValley_64 ?_
  refine lv_topi (fun v40 ev40 => ?_)
  obtain rfl : v40 = 0 := ev40.trans (by decide +kernel)
  refine lv_iload_n (pc := 65) hx hb dX12_readValley_65 rfl (lv_at hl 0 rfl) ?_
  refine lv_iadd (pc := 66) hx hb dX12_readValley_66 ?_
  refine lv_topi (fun v41 ev41 => ?_)
  obtain rfl : v41 = 3 := ev41.trans (by decide +kernel)
  refine lv_iconst (v := 0) (pc := 67) hx hb dX12_readValley_67 (by decide) ?_
  obtain ⟨f42, ef42⟩ : ∃ fz : Nat → Int32, upd f32 (3 : Int32).toNatClampNeg 0 = fz := ⟨_, rfl⟩
  refine r_iast (ws' := [(h0, .inr (12, [.int 0, .ref b1, .int 0, .int 0, .int (-1), .int 0, .ref b6, .ref b7, .ref b8, .ref b9, .ref b10, .ref b11, .ref b12, .ref b13, .ref b14, .ref b15, .ref b16, .ref b17, .int 0, .int (-1), .int (-1), .ref b21, .ref b22, .ref b23, .ref b24, .ref b25, .ref b26, .int 0, .ref b28, .ref b29, .ref b30, .ref b31, .ref b32, .ref b33, .ref b34, .ref b35, .ref b36, .int 0, .int 0, .int 0, .int 0, .int 0, .int 0, .int 0, .int 0, .int 0, .ref b46, .ref b47, .ref b48, .ref b49, .ref b50, .ref b51, .ref b52, .ref b53, .ref b54, .ref b55, .ref b56, .ref b57, .ref b58, .ref b59, .ref b60, .ref b61, .ref b62, .ref b63])), (b7, .inl (g.2.1 1, 11, .inl f1)), (b8, .inl (g.2.1 1, 11, .inl f2)), (b9, .inl (g.2.1 1, 44, .inl f36)), (b10, .inl (g.2.1 1, 44, .inl f39)), (b11, .inl (g.2.1 1, 44, .inl f42))]) X hW 5 rfl (vp_in_nI (n := 3) (by decide) (by decide)) ef42 rfl dX12_readValley_68 (fun H locs hW => ?_)
  refine lv_iinc (v := 4) (lv' := [(2, .int 4), (1, .int 0), (0, .ref h0)]) (pc := 69) hx hb dX12_readValley_69 hl (k := 0) rfl (by decide +kernel) (by decide) rfl (fun ls hl => ?_)
  refine lv_goto (tgt := 31) (pc := 72) hx hb dX12_readValley_72 rfl ?_
  refine lv_iload_n (pc := 31) hx hb dX12_readValley_31 rfl (lv_at hl 0 rfl) ?_
  refine lv_iconst (v := 4) (pc := 32) hx hb dX12_readValley_32 (by decide) ?_
  refine lv_icmp_ge (tgt := 75) (pc := 33) hx hb dX12_readValley_33 rfl (fun c43 => ?_) (fun c43 => absurd (by decide) c43)
  refine lv_aload_n (pc := 75) hx hb dX12_readValley_75 rfl (lv_at hl 2 rfl) ?_
  refine c_Vi (pc := 76) (As := []) (rest := []) (wr := [(b7, .inl (g.2.1 1, 11, .inl f1)), (b8, .inl (g.2.1 1, 11, .inl f2)), (b9, .inl (g.2.1 1, 44, .inl f36)), (b10, .inl (g.2.1 1, 44, .inl f39)), (b11, .inl (g.2.1 1, 44, .inl f42))]) X hW 0 ciX12 rfl (C_X12_look l g h0 b1 b6 b7 b8 b9 b10 b11 b12 b13 b14 b15 b16 b17 b21 b22 b23 b24 b25 b26 b28 b29 b30 b31 b32 b33 b34 b35 b36 b46 b47 b48 b49 b50 b51 b52 b53 b54 b55 b56 b57 b58 b59 b60 b61 b62 b63) vX12_188 [0] [1, 2, 3, 4, 5] rfl rfl rfl rfl rfl rfl hl.1 rfl (Nat.le_of_ble_eq_true rfl) ⟨Nat.le_of_ble_eq_true rfl, Nat.le_of_ble_eq_true rfl⟩ ⟨Nat.le_of_ble_eq_true rfl, Nat.le_of_ble_eq_true rfl⟩ dX12_readValley_76 (fun r44 u9 H locs hq hW => ?_)
  obtain ⟨rfl, rfl⟩ := hq
  have hW : WD g A s _ _ [(b7, .inl (g.2.1 1, 11, .inl f1)), (b8, .inl (g.2.1 1, 11, .inl f2)), (b9, .inl (g.2.1 1, 44, .inl f36)), (b10, .inl (g.2.1 1, 44, .inl f39)), (b11, .inl (g.2.1 1, 44, .inl f42)), (h0, .inr (12, [.int 0, .ref b1, .int 0, .int 0, .int (-1), .int 0, .ref b6, .ref b7, .ref b8, .ref b9, .ref b10, .ref b11, .ref b12, .ref b13, .ref b14, .ref b15, .ref b16, .ref b17, .int 0, .int (-1), .int (-1), .ref b21, .ref b22, .ref b23, .ref b24, .ref b25, .ref b26, .int 0, .ref b28, .ref b29, .ref b30, .ref b31, .ref b32, .ref b33, .ref b34, .ref b35, .ref b36, .int 0, .int 0, .int 0, .int 0, .int 0, .int 0, .int 0, .int 0, .int 0, .ref b46, .ref b47, .ref b48, .ref b49, .ref b50, .ref b51, .ref b52, .ref b53, .ref b54, .ref b55, .ref b56, .ref b57, .ref b58, .ref b59, .ref b60, .ref b61, .ref b62, .ref b63]))] := hW
  refine lv_bipush (v := 112) (pc := 79) hx hb dX12_readValley_79 (by decide) ?_
  refine lv_icmp_eq (tgt := 93) (pc := 81) hx hb dX12_readValley_81 rfl (fun c45 => absurd c45 (by decide)) (fun c45 => ?_)
  refine lv_aload_n (pc := 84) hx hb dX12_readValley_84 rfl (lv_at hl 2 rfl) ?_
  refine lv_aload_n (pc := 85) hx hb dX12_readValley_85 rfl (lv_at hl 2 rfl) ?_
  refine r_get X hW 5 ciX12 3 rfl (by decide) m_1234 rfl rfl dX12_readValley_86 ?_
  refine c_Vi (pc := 89) (As := [.int 0]) (rest := []) (wr := [(b7, .inl (g.2.1 1, 11, .inl f1)), (b8, .inl (g.2.1 1, 11, .inl f2)), (b9, .inl (g.2.1 1, 44, .inl f36)), (b10, .inl (g.2.1 1, 44, .inl f39)), (b11, .inl (g.2.1 1, 44, .inl f42))]) X hW 5 ciX12 rfl (C_X12_fails l g h0 b1 b6 b7 b8 b9 b10 b11 b12 b13 b14 b15 b16 b17 b21 b22 b23 b24 b25 b26 b28 b29 b30 b31 b32 b33 b34 b35 b36 b46 b47 b48 b49 b50 b51 b52 b53 b54 b55 b56 b57 b58 b59 b60 b61 b62 b63) vX12_184 [5] [0, 1, 2, 3, 4] rfl rfl rfl rfl rfl rfl hl.1 rfl (Nat.le_of_ble_eq_true rfl) ⟨Nat.le_of_ble_eq_true rfl, Nat.le_of_ble_eq_true rfl⟩ ⟨Nat.le_of_ble_eq_true rfl, Nat.le_of_ble_eq_true rfl⟩ dX12_readValley_89 (fun r46 u9 H locs hq hW => ?_)
  obtain ⟨rfl, rfl⟩ := hq
  have hW : WD g A s _ _ [(b7, .inl (g.2.1 1, 11, .inl f1)), (b8, .inl (g.2.1 1, 11, .inl f2)), (b9, .inl (g.2.1 1, 44, .inl f36)), (b10, .inl (g.2.1 1, 44, .inl f39)), (b11, .inl (g.2.1 1, 44, .inl f42)), (h0, .inr (12, [.int 0, .ref b1, .int 0, .int 0, .int 0, .int 0, .ref b6, .ref b7, .ref b8, .ref b9, .ref b10, .ref b11, .ref b12, .ref b13, .ref b14, .ref b15, .ref b16, .ref b17, .int 0, .int (-1), .int (-1), .ref b21, .ref b22, .ref b23, .ref b24, .ref b25, .ref b26, .int 0, .ref b28, .ref b29, .ref b30, .ref b31, .ref b32, .ref b33, .ref b34, .ref b35, .ref b36, .int 0, .int 0, .int 0, .int 0, .int 0, .int 0, .int 0, .int 0, .int 0, .ref b46, .ref b47, .ref b48, .ref b49, .ref b50, .ref b51, .ref b52, .ref b53, .ref b54, .ref b55, .ref b56, .ref b57, .ref b58, .ref b59, .ref b60, .ref b61, .ref b62, .ref b63]))] := hW
  exact e_z X hQ hr hW (u := [(h0, .inr (12, [.int 0, .ref b1, .int 0, .int 0, .int 0, .int 0, .ref b6, .ref b7, .ref b8, .ref b9, .ref b10, .ref b11, .ref b12, .ref b13, .ref b14, .ref b15, .ref b16, .ref b17, .int 0, .int (-1), .int (-1), .ref b21, .ref b22, .ref b23, .ref b24, .ref b25, .ref b26, .int 0, .ref b28, .ref b29, .ref b30, .ref b31, .ref b32, .ref b33, .ref b34, .ref b35, .ref b36, .int 0, .int 0, .int 0, .int 0, .int 0, .int 0, .int 0, .int 0, .int 0, .ref b46, .ref b47, .ref b48, .ref b49, .ref b50, .ref b51, .ref b52, .ref b53, .ref b54, .ref b55, .ref b56, .ref b57, .ref b58, .ref b59, .ref b60, .ref b61, .ref b62, .ref b63]))]) rfl [5] rfl rfl (⟨rfl, rfl⟩) ⟨Nat.le_of_ble_eq_true rfl, Nat.le_of_ble_eq_true rfl⟩ dX12_readValley_92

set_option maxHeartbeats 4000000 in
set_option maxRecDepth 100000 in
theorem C_X12_fault (l : Launch) (g : GG) (h0 b1 b6 b7 b8 b9 b10 b11 b12 b13 b14 b15 b16 b17 b21 b22 b23 b24 b25 b26 b28 b29 b30 b31 b32 b33 b34 b35 b36 b46 b47 b48 b49 b50 b51 b52 b53 b54 b55 b56 b57 b58 b59 b60 b61 b62 b63 : Nat) : MetI l g yX12_fault cX12_fault 2 (some .int) 3 0 0 [.ref h0] [(h0, .inr (12, [.int 0, .ref b1, .int 0, .int 0, .int 0, .int 0, .ref b6, .ref b7, .ref b8, .ref b9, .ref b10, .ref b11, .ref b12, .ref b13, .ref b14, .ref b15, .ref b16, .ref b17, .int 0, .int (-1), .int (-1), .ref b21, .ref b22, .ref b23, .ref b24, .ref b25, .ref b26, .int 0, .ref b28, .ref b29, .ref b30, .ref b31, .ref b32, .ref b33, .ref b34, .ref b35, .ref b36, .int 0, .int 0, .int 0, .int 0, .int 0, .int 0, .int 0, .int 0, .int 0, .ref b46, .ref b47, .ref b48, .ref b49, .ref b50, .ref b51, .ref b52, .ref b53, .ref b54, .ref b55, .ref b56, .ref b57, .ref b58, .ref b59, .ref b60, .ref b61, .ref b62, .ref b63])), (b7, .inl (g.2.1 1, 11, .inl (fun _ => 0))), (b8, .inl (g.2.1 1, 11, .inl (fun _ => 0))), (b9, .inl (g.2.1 1, 44, .inl (fun _ => 0))), (b10, .inl (g.2.1 1, 44, .inl (fun _ => 0))), (b11, .inl (g.2.1 1, 44, .inl (fun _ => 0)))] (fun r u => r = (0) ∧ u = []) := by
  refine MetI.of (own := RX12) rfl (by decide) (Nat.le_of_ble_eq_true rfl) ?_
  intro p e s m below meth c A ls args Q hQ X hr hin hW hl
  have hx := X.1
  have hb := X.2.1
  have hl : lv_has ls 2 [(0, .ref h0)] := hl
  refine lv_aload_n (pc := 0) hx hb dX12_fault_0 rfl (lv_at hl 0 rfl) ?_
  refine lv_iconst (v := 0) (pc := 1) hx hb dX12_fault_1 (by decide) ?_
  refine r_put (ws' := [(h0, .inr (12, [.int 0, .ref b1, .int 0, .int 0, .int 0, .int 0, .ref b6, .ref b7, .ref b8, .ref b9, .ref b10, .ref b11, .ref b12, .ref b13, .ref b14, .ref b15, .ref b16, .ref b17, .int 0, .int (-1), .int (-1), .ref b21, .ref b22, .ref b23, .ref b24, .ref b25, .ref b26, .int 0, .ref b28, .ref b29, .ref b30, .ref b31, .ref b32, .ref b33, .ref b34, .ref b35, .ref b36, .int 0, .int 0, .int 0, .int 0, .int 0, .int 0, .int 0, .int 0, .int 0, .ref b46, .ref b47, .ref b48, .ref b49, .ref b50, .ref b51, .ref b52, .ref b53, .ref b54, .ref b55, .ref b56, .ref b57, .ref b58, .ref b59, .ref b60, .ref b61, .ref b62, .ref b63])), (b7, .inl (g.2.1 1, 11, .inl (fun _ => 0))), (b8, .inl (g.2.1 1, 11, .inl (fun _ => 0))), (b9, .inl (g.2.1 1, 44, .inl (fun _ => 0))), (b10, .inl (g.2.1 1, 44, .inl (fun _ => 0))), (b11, .inl (g.2.1 1, 44, .inl (fun _ => 0)))]) X hW 0 ciX12 0 rfl (by decide) m_1231 rfl rfl rfl rfl (Nat.le_of_ble_eq_true rfl) rfl dX12_fault_2 (fun H locs hW => ?_)
  refine lv_aload_n (pc := 5) hx hb dX12_fault_5 rfl (lv_at hl 0 rfl) ?_
  refine c_Vi (pc := 6) (As := []) (rest := []) (wr := []) X hW 0 ciX12 rfl (C_X12_readValley l g h0 b1 b6 b7 b8 b9 b10 b11 b12 b13 b14 b15 b16 b17 b21 b22 b23 b24 b25 b26 b28 b29 b30 b31 b32 b33 b34 b35 b36 b46 b47 b48 b49 b50 b51 b52 b53 b54 b55 b56 b57 b58 b59 b60 b61 b62 b63) vX12_218 [0, 1, 2, 3, 4, 5] [] rfl rfl rfl rfl rfl rfl hl.1 rfl (Nat.le_of_ble_eq_true rfl) ⟨Nat.le_of_ble_eq_true rfl, Nat.le_of_ble_eq_true rfl⟩ ⟨Nat.le_of_ble_eq_true rfl, Nat.le_of_ble_eq_true rfl⟩ dX12_fault_6 (fun r1 u9 H locs hq hW => ?_)
  obtain ⟨rfl, rfl⟩ := hq
  have hW : WD g A s _ _ [(h0, .inr (12, [.int 0, .ref b1, .int 0, .int 0, .int 0, .int 0, .ref b6, .ref b7, .ref b8, .ref b9, .ref b10, .ref b11, .ref b12, .ref b13, .ref b14, .ref b15, .ref b16, .ref b17, .int 0, .int (-1), .int (-1), .ref b21, .ref b22, .ref b23, .ref b24, .ref b25, .ref b26, .int 0, .ref b28, .ref b29, .ref b30, .ref b31, .ref b32, .ref b33, .ref b34, .ref b35, .ref b36, .int 0, .int 0, .int 0, .int 0, .int 0, .int 0, .int 0, .int 0, .int 0, .ref b46, .ref b47, .ref b48, .ref b49, .ref b50, .ref b51, .ref b52, .ref b53, .ref b54, .ref b55, .ref b56, .ref b57, .ref b58, .ref b59, .ref b60, .ref b61, .ref b62, .ref b63]))] := hW
  refine lv_istore_n (lv' := [(1, .int 0), (0, .ref h0)]) (pc := 9) hx hb dX12_fault_9 rfl hl (by decide) rfl (fun ls hl => ?_)
  refine lv_aload_n (pc := 10) hx hb dX12_fault_10 rfl (lv_at hl 1 rfl) ?_
  refine r_get X hW 0 ciX12 4 rfl (by decide) m_1235 rfl rfl dX12_fault_11 ?_
  exact e_i X hQ hr hW (u := []) [] rfl rfl (⟨rfl, rfl⟩) ⟨Nat.le_of_ble_eq_true rfl, Nat.le_of_ble_eq_true rfl⟩ dX12_fault_14

set_option maxHeartbeats 4000000 in
set_option maxRecDepth 100000 in
theorem C_X12_valley (l : Launch) (g : GG) (h0 b1 b6 b7 b8 b9 b10 b11 b12 b13 b14 b15 b16 b17 b21 b22 b23 b24 b25 b26 b28 b29 b30 b31 b32 b33 b34 b35 b36 b46 b47 b48 b49 b50 b51 b52 b53 b54 b55 b56 b57 b58 b59 b60 b61 b62 b63 : Nat) : MetI l g yX12_valley cX12_valley 2 (some .int) 3 0 0 [.ref h0] [(h0, .inr (12, [.int 0, .ref b1, .int 0, .int 0, .int 0, .int 0, .ref b6, .ref b7, .ref b8, .ref b9, .ref b10, .ref b11, .ref b12, .ref b13, .ref b14, .ref b15, .ref b16, .ref b17, .int 0, .int (-1), .int (-1), .ref b21, .ref b22, .ref b23, .ref b24, .ref b25, .ref b26, .int 0, .ref b28, .ref b29, .ref b30, .ref b31, .ref b32, .ref b33, .ref b34, .ref b35, .ref b36, .int 0, .int 0, .int 0, .int 0, .int 0, .int 0, .int 0, .int 0, .int 0, .ref b46, .ref b47, .ref b48, .ref b49, .ref b50, .ref b51, .ref b52, .ref b53, .ref b54, .ref b55, .ref b56, .ref b57, .ref b58, .ref b59, .ref b60, .ref b61, .ref b62, .ref b63])), (b7, .inl (g.2.1 1, 11, .inl (fun _ => 0))), (b8, .inl (g.2.1 1, 11, .inl (fun _ => 0))), (b9, .inl (g.2.1 1, 44, .inl (fun _ => 0))), (b10, .inl (g.2.1 1, 44, .inl (fun _ => 0))), (b11, .inl (g.2.1 1, 44, .inl (fun _ => 0)))] (fun r u => r = (-1) ∧ u = []) := by
  refine MetI.of (own := RX12) rfl (by decide) (Nat.le_of_ble_eq_true rfl) ?_
  intro p e s m below meth c A ls args Q hQ X hr hin hW hl
  have hx := X.1
  have hb := X.2.1
  have hl : lv_has ls 2 [(0, .ref h0)] := hl
  refine lv_aload_n (pc := 0) hx hb dX12_valley_0 rfl (lv_at hl 0 rfl) ?_
  refine lv_iconst (v := 0) (pc := 1) hx hb dX12_valley_1 (by decide) ?_
  refine r_put (ws' := [(h0, .inr (12, [.int 0, .ref b1, .int 0, .int 0, .int 0, .int 0, .ref b6, .ref b7, .ref b8, .ref b9, .ref b10, .ref b11, .ref b12, .ref b13, .ref b14, .ref b15, .ref b16, .ref b17, .int 0, .int (-1), .int (-1), .ref b21, .ref b22, .ref b23, .ref b24, .ref b25, .ref b26, .int 0, .ref b28, .ref b29, .ref b30, .ref b31, .ref b32, .ref b33, .ref b34, .ref b35, .ref b36, .int 0, .int 0, .int 0, .int 0, .int 0, .int 0, .int 0, .int 0, .int 0, .ref b46, .ref b47, .ref b48, .ref b49, .ref b50, .ref b51, .ref b52, .ref b53, .ref b54, .ref b55, .ref b56, .ref b57, .ref b58, .ref b59, .ref b60, .ref b61, .ref b62, .ref b63])), (b7, .inl (g.2.1 1, 11, .inl (fun _ => 0))), (b8, .inl (g.2.1 1, 11, .inl (fun _ => 0))), (b9, .inl (g.2.1 1, 44, .inl (fun _ => 0))), (b10, .inl (g.2.1 1, 44, .inl (fun _ => 0))), (b11, .inl (g.2.1 1, 44, .inl (fun _ => 0)))]) X hW 0 ciX12 0 rfl (by decide) m_1231 rfl rfl rfl rfl (Nat.le_of_ble_eq_true rfl) rfl dX12_valley_2 (fun H locs hW => ?_)
  refine lv_aload_n (pc := 5) hx hb dX12_valley_5 rfl (lv_at hl 0 rfl) ?_
  refine r_get X hW 0 ciX12 18 rfl (by decide) m_1249 rfl rfl dX12_valley_6 ?_
  refine lv_bipush (v := 10) (pc := 9) hx hb dX12_valley_9 (by decide) ?_
  refine lv_icmp_eq (tgt := 21) (pc := 11) hx hb dX12_valley_11 rfl (fun c1 => absurd c1 (by decide)) (fun c1 => ?_)
  refine lv_aload_n (pc := 14) hx hb dX12_valley_14 rfl (lv_at hl 0 rfl) ?_
  refine c_Vi (pc := 15) (As := []) (rest := []) (wr := []) X hW 0 ciX12 rfl (C_X12_readValley l g h0 b1 b6 b7 b8 b9 b10 b11 b12 b13 b14 b15 b16 b17 b21 b22 b23 b24 b25 b26 b28 b29 b30 b31 b32 b33 b34 b35 b36 b46 b47 b48 b49 b50 b51 b52 b53 b54 b55 b56 b57 b58 b59 b60 b61 b62 b63) vX12_218 [0, 1, 2, 3, 4, 5] [] rfl rfl rfl rfl rfl rfl hl.1 rfl (Nat.le_of_ble_eq_true rfl) ⟨Nat.le_of_ble_eq_true rfl, Nat.le_of_ble_eq_true rfl⟩ ⟨Nat.le_of_ble_eq_true rfl, Nat.le_of_ble_eq_true rfl⟩ dX12_valley_15 (fun r2 u9 H locs hq hW => ?_)
  obtain ⟨rfl, rfl⟩ := hq
  have hW : WD g A s _ _ [(h0, .inr (12, [.int 0, .ref b1, .int 0, .int 0, .int 0, .int 0, .ref b6, .ref b7, .ref b8, .ref b9, .ref b10, .ref b11, .ref b12, .ref b13, .ref b14, .ref b15, .ref b16, .ref b17, .int 0, .int (-1), .int (-1), .ref b21, .ref b22, .ref b23, .ref b24, .ref b25, .ref b26, .int 0, .ref b28, .ref b29, .ref b30, .ref b31, .ref b32, .ref b33, .ref b34, .ref b35, .ref b36, .int 0, .int 0, .int 0, .int 0, .int 0, .int 0, .int 0, .int 0, .int 0, .ref b46, .ref b47, .ref b48, .ref b49, .ref b50, .ref b51, .ref b52, .ref b53, .ref b54, .ref b55, .ref b56, .ref b57, .ref b58, .ref b59, .ref b60, .ref b61, .ref b62, .ref b63]))] := hW
  refine lv_if_ne (tgt := 23) (pc := 18) hx hb dX12_valley_18 rfl (fun c3 => absurd (by decide) c3) (fun c3 => ?_)
  refine lv_iconst (v := (-1)) (pc := 21) hx hb dX12_valley_21 (by decide) ?_
  exact e_i X hQ hr hW (u := []) [] rfl rfl (⟨rfl, rfl⟩) ⟨Nat.le_of_ble_eq_true rfl, Nat.le_of_ble_eq_true rfl⟩ dX12_valley_22

set_option maxHeartbeats 4000000 in
set_option maxRecDepth 100000 in
theorem C_X11_count (l : Launch) (g : GG) (h0 a0 a1 a2 a3 a4 a5 a6 a7 a8 a9 a10 q : Nat) (p0 : Int32) : MetI l g yX11_count cX11_count 2 (some .int) 0 0 0 [.ref h0, .int p0] [(h0, .inr (11, [.ref a0, .ref a1, .ref a2, .ref a3, .ref a4, .ref a5, .ref a6, .ref a7, .ref a8, .ref a9, .ref a10, .int 0, .int 0, .int 0])), (a0, .inr (8, [.ref q, .int 0, .int 0]))] (fun r u => r = cv p0 ∧ u = []) := by
  refine MetI.of (own := RX11) rfl (by decide) (Nat.le_of_ble_eq_true rfl) ?_
  intro p e s m below meth c A ls args Q hQ X hr hin hW hl
  have hx := X.1
  have hb := X.2.1
  have hl : lv_has ls 2 [(0, .ref h0), (1, .int p0)] := hl
  refine lv_iload_n (pc := 0) hx hb dX11_count_0 rfl (lv_at hl 1 rfl) ?_
  rcases tab4 p0 with rfl | rfl | rfl | rfl | hout
  · refine lv_tableIn (pc := 1) (off := 31) (tgt := 32) hx hb dX11_count_1 (by decide) (by decide) rfl rfl ?_
    refine lv_aload_n (pc := 32) hx hb dX11_count_32 rfl (lv_at hl 0 rfl) ?_
    refine r_get X hW 0 ciX11 11 rfl (by decide) m_364 rfl rfl dX11_count_33 ?_
    exact e_i X hQ hr hW (u := []) [] rfl rfl (⟨by decide, rfl⟩) ⟨Nat.le_of_ble_eq_true rfl, Nat.le_of_ble_eq_true rfl⟩ dX11_count_36
  · refine lv_tableIn (pc := 1) (off := 36) (tgt := 37) hx hb dX11_count_1 (by decide) (by decide) rfl rfl ?_
    refine lv_aload_n (pc := 37) hx hb dX11_count_37 rfl (lv_at hl 0 rfl) ?_
    refine r_get X hW 0 ciX11 12 rfl (by decide) m_365 rfl rfl dX11_count_38 ?_
    exact e_i X hQ hr hW (u := []) [] rfl rfl (⟨by decide, rfl⟩) ⟨Nat.le_of_ble_eq_true rfl, Nat.le_of_ble_eq_true rfl⟩ dX11_count_41
  · refine lv_tableIn (pc := 1) (off := 41) (tgt := 42) hx hb dX11_count_1 (by decide) (by decide) rfl rfl ?_
    refine lv_aload_n (pc := 42) hx hb dX11_count_42 rfl (lv_at hl 0 rfl) ?_
    refine r_get X hW 0 ciX11 13 rfl (by decide) m_366 rfl rfl dX11_count_43 ?_
    exact e_i X hQ hr hW (u := []) [] rfl rfl (⟨by decide, rfl⟩) ⟨Nat.le_of_ble_eq_true rfl, Nat.le_of_ble_eq_true rfl⟩ dX11_count_46
  · refine lv_tableIn (pc := 1) (off := 46) (tgt := 47) hx hb dX11_count_1 (by decide) (by decide) rfl rfl ?_
    refine lv_aload_n (pc := 47) hx hb dX11_count_47 rfl (lv_at hl 0 rfl) ?_
    refine r_get X hW 0 ciX11 0 rfl (by decide) m_353 rfl rfl dX11_count_48 ?_
    refine r_getN X hW 1 ciX8 1 rfl (by decide) m_38 rfl rfl dX11_count_51 ?_
    exact e_i X hQ hr hW (u := []) [] rfl rfl (⟨by decide, rfl⟩) ⟨Nat.le_of_ble_eq_true rfl, Nat.le_of_ble_eq_true rfl⟩ dX11_count_54
  · refine lv_tableOut (pc := 1) (tgt := 55) hx hb dX11_count_1 hout rfl ?_
    refine lv_iconst (v := (-1)) (pc := 55) hx hb dX11_count_55 (by decide) ?_
    exact e_i X hQ hr hW (u := []) [] rfl rfl (⟨cv_out hout, rfl⟩) ⟨Nat.le_of_ble_eq_true rfl, Nat.le_of_ble_eq_true rfl⟩ dX11_count_56

set_option maxHeartbeats 4000000 in
set_option maxRecDepth 100000 in
theorem C_X12_count (l : Launch) (g : GG) (h0 b1 b6 b7 b8 b9 b10 b11 b12 b13 b14 b15 b16 b17 b21 b22 b23 b24 b25 b26 b28 b29 b30 b31 b32 b33 b34 b35 b36 b46 b47 b48 b49 b50 b51 b52 b53 b54 b55 b56 b57 b58 b59 b60 b61 b62 b63 : Nat) (p0 : Int32) : MetI l g yX12_count cX12_count 4 (some .int) 0 0 0 [.ref h0, .int p0] [(h0, .inr (12, [.int 0, .ref b1, .int 0, .int 0, .int 0, .int 0, .ref b6, .ref b7, .ref b8, .ref b9, .ref b10, .ref b11, .ref b12, .ref b13, .ref b14, .ref b15, .ref b16, .ref b17, .int 0, .int (-1), .int (-1), .ref b21, .ref b22, .ref b23, .ref b24, .ref b25, .ref b26, .int 0, .ref b28, .ref b29, .ref b30, .ref b31, .ref b32, .ref b33, .ref b34, .ref b35, .ref b36, .int 0, .int 0, .int 0, .int 0, .int 0, .int 0, .int 0, .int 0, .int 0, .ref b46, .ref b47, .ref b48, .ref b49, .ref b50, .ref b51, .ref b52, .ref b53, .ref b54, .ref b55, .ref b56, .ref b57, .ref b58, .ref b59, .ref b60, .ref b61, .ref b62, .ref b63]))] (fun r u => r = cv p0 ∧ u = []) := by
  refine MetI.of (own := RX12) rfl (by decide) (Nat.le_of_ble_eq_true rfl) ?_
  intro p e s m below meth c A ls args Q hQ X hr hin hW hl
  have hx := X.1
  have hb := X.2.1
  have hl : lv_has ls 4 [(0, .ref h0), (1, .int p0)] := hl
  refine lv_aload_n (pc := 0) hx hb dX12_count_0 rfl (lv_at hl 0 rfl) ?_
  refine lv_iconst (v := 0) (pc := 1) hx hb dX12_count_1 (by decide) ?_
  refine r_put (ws' := [(h0, .inr (12, [.int 0, .ref b1, .int 0, .int 0, .int 0, .int 0, .ref b6, .ref b7, .ref b8, .ref b9, .ref b10, .ref b11, .ref b12, .ref b13, .ref b14, .ref b15, .ref b16, .ref b17, .int 0, .int (-1), .int (-1), .ref b21, .ref b22, .ref b23, .ref b24, .ref b25, .ref b26, .int 0, .ref b28, .ref b29, .ref b30, .ref b31, .ref b32, .ref b33, .ref b34, .ref b35, .ref b36, .int 0, .int 0, .int 0, .int 0, .int 0, .int 0, .int 0, .int 0, .int 0, .ref b46, .ref b47, .ref b48, .ref b49, .ref b50, .ref b51, .ref b52, .ref b53, .ref b54, .ref b55, .ref b56, .ref b57, .ref b58, .ref b59, .ref b60, .ref b61, .ref b62, .ref b63]))]) X hW 0 ciX12 0 rfl (by decide) m_1231 rfl rfl rfl rfl (Nat.le_of_ble_eq_true rfl) rfl dX12_count_2 (fun H locs hW => ?_)
  refine lv_iload_n (pc := 5) hx hb dX12_count_5 rfl (lv_at hl 1 rfl) ?_
  rcases tab4 p0 with rfl | rfl | rfl | rfl | hout
  · refine lv_tableIn (pc := 6) (off := 30) (tgt := 36) hx hb dX12_count_6 (by decide) (by decide) rfl rfl ?_
    refine lv_aload_n (pc := 36) hx hb dX12_count_36 rfl (lv_at hl 0 rfl) ?_
    refine r_get X hW 0 ciX12 18 rfl (by decide) m_1249 rfl rfl dX12_count_37 ?_
    exact e_i X hQ hr hW (u := []) [] rfl rfl (⟨by decide, rfl⟩) ⟨Nat.le_of_ble_eq_true rfl, Nat.le_of_ble_eq_true rfl⟩ dX12_count_40
  · refine lv_tableIn (pc := 6) (off := 35) (tgt := 41) hx hb dX12_count_6 (by decide) (by decide) rfl rfl ?_
    refine lv_aload_n (pc := 41) hx hb dX12_count_41 rfl (lv_at hl 0 rfl) ?_
    refine r_get X hW 0 ciX12 27 rfl (by decide) m_1258 rfl rfl dX12_count_42 ?_
    exact e_i X hQ hr hW (u := []) [] rfl rfl (⟨by decide, rfl⟩) ⟨Nat.le_of_ble_eq_true rfl, Nat.le_of_ble_eq_true rfl⟩ dX12_count_45
  · refine lv_tableIn (pc := 6) (off := 40) (tgt := 46) hx hb dX12_count_6 (by decide) (by decide) rfl rfl ?_
    refine lv_iconst (v := 0) (pc := 46) hx hb dX12_count_46 (by decide) ?_
    refine lv_istore_n (lv' := [(2, .int 0), (0, .ref h0), (1, .int 2)]) (pc := 47) hx hb dX12_count_47 rfl hl (by decide) rfl (fun ls hl => ?_)
    refine lv_iconst (v := 0) (pc := 48) hx hb dX12_count_48 (by decide) ?_
    refine lv_istore_n (lv' := [(3, .int 0), (2, .int 0), (0, .ref h0), (1, .int 2)]) (pc := 49) hx hb dX12_count_49 rfl hl (by decide) rfl (fun ls hl => ?_)
    refine lv_iload_n (pc := 50) hx hb dX12_count_50 rfl (lv_at hl 0 rfl) ?_
    refine lv_aload_n (pc := 51) hx hb dX12_count_51 rfl (lv_at hl 2 rfl) ?_
    refine r_get X hW 0 ciX12 27 rfl (by decide) m_1258 rfl rfl dX12_count_52 ?_
    refine lv_icmp_ge (tgt := 73) (pc := 55) hx hb dX12_count_55 rfl (fun c1 => ?_) (fun c1 => absurd (by decide) c1)
    refine lv_iload_n (pc := 73) hx hb dX12_count_73 rfl (lv_at hl 1 rfl) ?_
    exact e_i X hQ hr hW (u := []) [] rfl rfl (⟨by decide, rfl⟩) ⟨Nat.le_of_ble_eq_true rfl, Nat.le_of_ble_eq_true rfl⟩ dX12_count_74
  · refine lv_tableIn (pc := 6) (off := 69) (tgt := 75) hx hb dX12_count_6 (by decide) (by decide) rfl rfl ?_
    refine lv_aload_n (pc := 75) hx hb dX12_count_75 rfl (lv_at hl 0 rfl) ?_
    refine r_get X hW 0 ciX12 2 rfl (by decide) m_1233 rfl rfl dX12_count_76 ?_
    exact e_i X hQ hr hW (u := []) [] rfl rfl (⟨by decide, rfl⟩) ⟨Nat.le_of_ble_eq_true rfl, Nat.le_of_ble_eq_true rfl⟩ dX12_count_79
  · refine lv_tableOut (pc := 6) (tgt := 80) hx hb dX12_count_6 hout rfl ?_
    refine lv_iconst (v := (-1)) (pc := 80) hx hb dX12_count_80 (by decide) ?_
    exact e_i X hQ hr hW (u := []) [] rfl rfl (⟨cv_out hout, rfl⟩) ⟨Nat.le_of_ble_eq_true rfl, Nat.le_of_ble_eq_true rfl⟩ dX12_count_81

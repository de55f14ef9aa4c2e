theorem m_1490 : (Cond.code yX12_isValley prog_14_method_19_code 2 (Option.some FieldType.boolean)) ∈ BW := bw (tb7 50 rfl) (by decide +kernel)
theorem dX12_isValley_0 : decode cX12_isValley 0 = .ok (.iload_n 1, 1) := DX12_isValley _ _ _ rfl
theorem dX12_isValley_1 : decode cX12_isValley 1 = .ok (.ifCond .lt 15, 3) := DX12_isValley _ _ _ rfl
theorem dX12_isValley_16 : decode cX12_isValley 16 = .ok (.iconst 0, 1) := DX12_isValley _ _ _ rfl
theorem dX12_isValley_17 : decode cX12_isValley 17 = .ok (.ireturn, 1) := DX12_isValley _ _ _ rfl
theorem dX12_isValley_4 : decode cX12_isValley 4 = .ok (.iload_n 1, 1) := DX12_isValley _ _ _ rfl
theorem dX12_isValley_5 : decode cX12_isValley 5 = .ok (.aload_n 0, 1) := DX12_isValley _ _ _ rfl
theorem m_1249 : (Cond.fieldLink "NoonValleyModel" 212 "NoonValleyModel" "valleys" "I") ∈ BW := bw (tb6 49 (by decide +kernel)) (by decide +kernel)
theorem dX12_isValley_6 : decode cX12_isValley 6 = .ok (.getfield 212, 3) := DX12_isValley _ _ _ rfl
theorem dX12_isValley_9 : decode cX12_isValley 9 = .ok (.if_icmp .ge 7, 3) := DX12_isValley _ _ _ rfl
theorem m_1537 : (Cond.code yX12_isPlan prog_14_method_32_code 2 (Option.some FieldType.boolean)) ∈ BW := bw (tb7 97 rfl) (by decide +kernel)
theorem dX12_isPlan_0 : decode cX12_isPlan 0 = .ok (.iload_n 1, 1) := DX12_isPlan _ _ _ rfl
theorem dX12_isPlan_1 : decode cX12_isPlan 1 = .ok (.ifCond .lt 15, 3) := DX12_isPlan _ _ _ rfl
theorem dX12_isPlan_16 : decode cX12_isPlan 16 = .ok (.iconst 0, 1) := DX12_isPlan _ _ _ rfl
theorem dX12_isPlan_17 : decode cX12_isPlan 17 = .ok (.ireturn, 1) := DX12_isPlan _ _ _ rfl
theorem dX12_isPlan_4 : decode cX12_isPlan 4 = .ok (.iload_n 1, 1) := DX12_isPlan _ _ _ rfl
theorem dX12_isPlan_5 : decode cX12_isPlan 5 = .ok (.aload_n 0, 1) := DX12_isPlan _ _ _ rfl
theorem m_1258 : (Cond.fieldLink "NoonValleyModel" 244 "NoonValleyModel" "plans" "I") ∈ BW := bw (tb6 58 (by decide +kernel)) (by decide +kernel)
theorem dX12_isPlan_6 : decode cX12_isPlan 6 = .ok (.getfield 244, 3) := DX12_isPlan _ _ _ rfl
theorem dX12_isPlan_9 : decode cX12_isPlan 9 = .ok (.if_icmp .ge 7, 3) := DX12_isPlan _ _ _ rfl
theorem m_1545 : (Cond.code yX12_isCall prog_14_method_37_code 3 (Option.some FieldType.boolean)) ∈ BW := bw (tb7 105 rfl) (by decide +kernel)
theorem m_1534 : (Cond.methodLink "NoonValleyModel" 247 yX12_isPlan) ∈ BW := bw (tb7 94 (by decide +kernel)) (by decide +kernel)
theorem m_12 : (Cond.initialized "NoonValleyModel") ∈ BW := bw (tb1 12 (by decide +kernel)) (by decide +kernel)
theorem m_1536 : (Cond.instanceMethod yX12_isPlan) ∈ BW := bw (tb7 96 (by decide +kernel)) (by decide +kernel)
theorem s_5_3 : (Cond.selects RX12 yX12_isPlan yX12_isPlan) ∈ BW := bw (sl5 (y := yX12_isPlan) (n := 64) 3 (by decide +kernel)) (by decide +kernel)
theorem vX12_247 : LV RX12 247 RX12 yX12_isPlan cX12_isPlan 2 (some .boolean) 1 := ⟨m_1534, m_1536, s_5_3, m_12, m_1537, rfl, by decide, by decide, by decide +kernel⟩
theorem m_1498 : (Cond.code yX12_isLine prog_14_method_25_code 3 (Option.some FieldType.boolean)) ∈ BW := bw (tb7 58 rfl) (by decide +kernel)
theorem dX12_isLine_0 : decode cX12_isLine 0 = .ok (.aload_n 0, 1) := DX12_isLine _ _ _ rfl
theorem dX12_isLine_1 : decode cX12_isLine 1 = .ok (.iload_n 1, 1) := DX12_isLine _ _ _ rfl
theorem m_1487 : (Cond.methodLink "NoonValleyModel" 221 yX12_isValley) ∈ BW := bw (tb7 47 (by decide +kernel)) (by decide +kernel)
theorem m_1489 : (Cond.instanceMethod yX12_isValley) ∈ BW := bw (tb7 49 (by decide +kernel)) (by decide +kernel)
theorem s_4_13 : (Cond.selects RX12 yX12_isValley yX12_isValley) ∈ BW := bw (sl4 (y := yX12_isValley) (n := 64) 13 (by decide +kernel)) (by decide +kernel)
theorem vX12_221 : LV RX12 221 RX12 yX12_isValley cX12_isValley 2 (some .boolean) 1 := ⟨m_1487, m_1489, s_4_13, m_12, m_1490, rfl, by decide, by decide, by decide +kernel⟩
theorem dX12_isLine_2 : decode cX12_isLine 2 = .ok (.invokevirtual 221, 3) := DX12_isLine _ _ _ rfl
theorem dX12_isLine_5 : decode cX12_isLine 5 = .ok (.ifCond .eq 23, 3) := DX12_isLine _ _ _ rfl
theorem dX12_isLine_28 : decode cX12_isLine 28 = .ok (.iconst 0, 1) := DX12_isLine _ _ _ rfl
theorem dX12_isLine_29 : decode cX12_isLine 29 = .ok (.ireturn, 1) := DX12_isLine _ _ _ rfl
theorem m_1605 : (Cond.code yX12_isAsked prog_14_method_53_code 3 (Option.some FieldType.boolean)) ∈ BW := bw (tb7 165 rfl) (by decide +kernel)
theorem m_1231 : (Cond.fieldLink "NoonValleyModel" 160 "NoonValleyModel" "thrown" "I") ∈ BW := bw (tb6 31 (by decide +kernel)) (by decide +kernel)
theorem m_1486 : (Cond.code yX12_told prog_14_method_24_code 3 (Option.some FieldType.int)) ∈ BW := bw (tb7 46 rfl) (by decide +kernel)
theorem m_1502 : (Cond.code yX12_down prog_14_method_27_code 4 (Option.some FieldType.boolean)) ∈ BW := bw (tb7 62 rfl) (by decide +kernel)
theorem dX12_down_0 : decode cX12_down 0 = .ok (.aload_n 0, 1) := DX12_down _ _ _ rfl
theorem dX12_down_1 : decode cX12_down 1 = .ok (.iconst 0, 1) := DX12_down _ _ _ rfl
theorem dX12_down_2 : decode cX12_down 2 = .ok (.putfield 160, 3) := DX12_down _ _ _ rfl
theorem dX12_down_5 : decode cX12_down 5 = .ok (.aload_n 0, 1) := DX12_down _ _ _ rfl
theorem dX12_down_6 : decode cX12_down 6 = .ok (.iload_n 1, 1) := DX12_down _ _ _ rfl
theorem dX12_down_7 : decode cX12_down 7 = .ok (.iload_n 2, 1) := DX12_down _ _ _ rfl
theorem m_1495 : (Cond.methodLink "NoonValleyModel" 224 yX12_isLine) ∈ BW := bw (tb7 55 (by decide +kernel)) (by decide +kernel)
theorem m_1497 : (Cond.instanceMethod yX12_isLine) ∈ BW := bw (tb7 57 (by decide +kernel)) (by decide +kernel)
theorem s_4_14 : (Cond.selects RX12 yX12_isLine yX12_isLine) ∈ BW := bw (sl4 (y := yX12_isLine) (n := 64) 14 (by decide +kernel)) (by decide +kernel)
theorem vX12_224 : LV RX12 224 RX12 yX12_isLine cX12_isLine 3 (some .boolean) 2 := ⟨m_1495, m_1497, s_4_14, m_12, m_1498, rfl, by decide, by decide, by decide +kernel⟩
theorem dX12_down_8 : decode cX12_down 8 = .ok (.invokevirtual 224, 3) := DX12_down _ _ _ rfl
theorem dX12_down_11 : decode cX12_down 11 = .ok (.ifCond .eq 15, 3) := DX12_down _ _ _ rfl
theorem dX12_down_26 : decode cX12_down 26 = .ok (.iconst 0, 1) := DX12_down _ _ _ rfl
theorem dX12_down_27 : decode cX12_down 27 = .ok (.ireturn, 1) := DX12_down _ _ _ rfl
theorem m_1509 : (Cond.code yX12_may prog_14_method_31_code 5 (Option.some FieldType.int)) ∈ BW := bw (tb7 69 rfl) (by decide +kernel)
theorem m_1529 : (Cond.code yX12_plan prog_14_method_33_code 2 (Option.some FieldType.int)) ∈ BW := bw (tb7 89 rfl) (by decide +kernel)
theorem dX12_plan_0 : decode cX12_plan 0 = .ok (.aload_n 0, 1) := DX12_plan _ _ _ rfl
theorem dX12_plan_1 : decode cX12_plan 1 = .ok (.iconst 0, 1) := DX12_plan _ _ _ rfl
theorem dX12_plan_2 : decode cX12_plan 2 = .ok (.putfield 160, 3) := DX12_plan _ _ _ rfl
theorem dX12_plan_5 : decode cX12_plan 5 = .ok (.aload_n 0, 1) := DX12_plan _ _ _ rfl
theorem dX12_plan_6 : decode cX12_plan 6 = .ok (.getfield 244, 3) := DX12_plan _ _ _ rfl
theorem dX12_plan_9 : decode cX12_plan 9 = .ok (.bipush 12, 2) := DX12_plan _ _ _ rfl
theorem dX12_plan_11 : decode cX12_plan 11 = .ok (.if_icmp .eq 11, 3) := DX12_plan _ _ _ rfl
theorem dX12_plan_14 : decode cX12_plan 14 = .ok (.aload_n 0, 1) := DX12_plan _ _ _ rfl
theorem dX12_plan_15 : decode cX12_plan 15 = .ok (.iload_n 1, 1) := DX12_plan _ _ _ rfl
theorem dX12_plan_16 : decode cX12_plan 16 = .ok (.invokevirtual 221, 3) := DX12_plan _ _ _ rfl
theorem dX12_plan_19 : decode cX12_plan 19 = .ok (.ifCond .ne 5, 3) := DX12_plan _ _ _ rfl
theorem dX12_plan_22 : decode cX12_plan 22 = .ok (.iconst (-1), 1) := DX12_plan _ _ _ rfl
theorem dX12_plan_23 : decode cX12_plan 23 = .ok (.ireturn, 1) := DX12_plan _ _ _ rfl
theorem m_1533 : (Cond.code yX12_call prog_14_method_34_code 7 (Option.some FieldType.int)) ∈ BW := bw (tb7 93 rfl) (by decide +kernel)
theorem dX12_call_0 : decode cX12_call 0 = .ok (.aload_n 0, 1) := DX12_call _ _ _ rfl
theorem dX12_call_1 : decode cX12_call 1 = .ok (.iconst 0, 1) := DX12_call _ _ _ rfl
theorem dX12_call_2 : decode cX12_call 2 = .ok (.putfield 160, 3) := DX12_call _ _ _ rfl
theorem dX12_call_5 : decode cX12_call 5 = .ok (.aload_n 0, 1) := DX12_call _ _ _ rfl
theorem dX12_call_6 : decode cX12_call 6 = .ok (.iload_n 1, 1) := DX12_call _ _ _ rfl
theorem dX12_call_7 : decode cX12_call 7 = .ok (.invokevirtual 247, 3) := DX12_call _ _ _ rfl
theorem dX12_call_10 : decode cX12_call 10 = .ok (.ifCond .eq 45, 3) := DX12_call _ _ _ rfl
theorem dX12_call_55 : decode cX12_call 55 = .ok (.iconst (-1), 1) := DX12_call _ _ _ rfl
theorem dX12_call_56 : decode cX12_call 56 = .ok (.ireturn, 1) := DX12_call _ _ _ rfl
theorem m_1541 : (Cond.code yX12_lawful prog_14_method_38_code 3 (Option.some FieldType.int)) ∈ BW := bw (tb7 101 rfl) (by decide +kernel)
theorem m_1542 : (Cond.methodLink "NoonValleyModel" 254 yX12_isCall) ∈ BW := bw (tb7 102 (by decide +kernel)) (by decide +kernel)
theorem m_1544 : (Cond.instanceMethod yX12_isCall) ∈ BW := bw (tb7 104 (by decide +kernel)) (by decide +kernel)
theorem s_5_4 : (Cond.selects RX12 yX12_isCall yX12_isCall) ∈ BW := bw (sl5 (y := yX12_isCall) (n := 64) 4 (by decide +kernel)) (by decide +kernel)
theorem vX12_254 : LV RX12 254 RX12 yX12_isCall cX12_isCall 3 (some .boolean) 2 := ⟨m_1542, m_1544, s_5_4, m_12, m_1545, rfl, by decide, by decide, by decide +kernel⟩
theorem m_1557 : (Cond.code yX12_unlawful prog_14_method_39_code 3 (Option.some FieldType.int)) ∈ BW := bw (tb7 117 rfl) (by decide +kernel)
theorem m_1561 : (Cond.code yX12_known prog_14_method_45_code 4 (Option.some FieldType.int)) ∈ BW := bw (tb7 121 rfl) (by decide +kernel)
theorem m_1581 : (Cond.code yX12_together prog_14_method_46_code 6 (Option.some FieldType.int)) ∈ BW := bw (tb7 141 rfl) (by decide +kernel)
theorem m_1589 : (Cond.code yX12_when prog_14_method_48_code 6 (Option.some FieldType.int)) ∈ BW := bw (tb7 149 rfl) (by decide +kernel)
theorem m_1601 : (Cond.code yX12_least prog_14_method_55_code 5 (Option.some FieldType.int)) ∈ BW := bw (tb7 161 rfl) (by decide +kernel)
theorem m_1602 : (Cond.methodLink "NoonValleyModel" 315 yX12_isAsked) ∈ BW := bw (tb7 162 (by decide +kernel)) (by decide +kernel)
theorem m_1604 : (Cond.instanceMethod yX12_isAsked) ∈ BW := bw (tb7 164 (by decide +kernel)) (by decide +kernel)
theorem s_5_14 : (Cond.selects RX12 yX12_isAsked yX12_isAsked) ∈ BW := bw (sl5 (y := yX12_isAsked) (n := 64) 14 (by decide +kernel)) (by decide +kernel)
theorem vX12_315 : LV RX12 315 RX12 yX12_isAsked cX12_isAsked 3 (some .boolean) 2 := ⟨m_1602, m_1604, s_5_14, m_12, m_1605, rfl, by decide, by decide, by decide +kernel⟩
theorem m_1633 : (Cond.code yX12_found prog_14_method_57_code 11 (Option.some FieldType.int)) ∈ BW := bw (tb7 193 rfl) (by decide +kernel)
theorem m_1653 : (Cond.code yX12_reach prog_14_method_62_code 9 (Option.some FieldType.int)) ∈ BW := bw (tb7 213 rfl) (by decide +kernel)
theorem m_1641 : (Cond.code yX12_from prog_14_method_58_code 8 (Option.some FieldType.int)) ∈ BW := bw (tb7 201 rfl) (by decide +kernel)
theorem m_1645 : (Cond.code yX12_added prog_14_method_60_code 11 (Option.some FieldType.int)) ∈ BW := bw (tb7 205 rfl) (by decide +kernel)
theorem dX12_added_0 : decode cX12_added 0 = .ok (.aload_n 0, 1) := DX12_added _ _ _ rfl
theorem dX12_added_1 : decode cX12_added 1 = .ok (.iload_n 1, 1) := DX12_added _ _ _ rfl
theorem dX12_added_2 : decode cX12_added 2 = .ok (.iload_n 2, 1) := DX12_added _ _ _ rfl
theorem dX12_added_3 : decode cX12_added 3 = .ok (.invokevirtual 315, 3) := DX12_added _ _ _ rfl
theorem dX12_added_6 : decode cX12_added 6 = .ok (.ifCond .eq 12, 3) := DX12_added _ _ _ rfl
theorem dX12_added_18 : decode cX12_added 18 = .ok (.iconst (-1), 1) := DX12_added _ _ _ rfl
theorem dX12_added_19 : decode cX12_added 19 = .ok (.ireturn, 1) := DX12_added _ _ _ rfl
theorem m_1662 : (Cond.code yX12_shut prog_14_method_64_code 9 (Option.some FieldType.int)) ∈ BW := bw (tb7 222 rfl) (by decide +kernel)
theorem m_1670 : (Cond.code yX12_fewest prog_14_method_68_code 2 (Option.some FieldType.int)) ∈ BW := bw (tb7 230 rfl) (by decide +kernel)
theorem m_1686 : (Cond.code yX12_gossip prog_14_method_69_code 4 (Option.some FieldType.int)) ∈ BW := bw (tb8 6 rfl) (by decide +kernel)
theorem m_1690 : (Cond.code yX12_ends prog_14_method_70_code 4 (Option.some FieldType.int)) ∈ BW := bw (tb8 10 rfl) (by decide +kernel)
theorem m_1694 : (Cond.code yX12_trade prog_14_method_75_code 6 (Option.some FieldType.int)) ∈ BW := bw (tb8 14 rfl) (by decide +kernel)
theorem m_1713 : (Cond.code yX12_card prog_14_method_76_code 5 (Option.some FieldType.int)) ∈ BW := bw (tb8 33 rfl) (by decide +kernel)
theorem dX12_card_0 : decode cX12_card 0 = .ok (.aload_n 0, 1) := DX12_card _ _ _ rfl
theorem dX12_card_1 : decode cX12_card 1 = .ok (.iconst 0, 1) := DX12_card _ _ _ rfl
theorem dX12_card_2 : decode cX12_card 2 = .ok (.putfield 160, 3) := DX12_card _ _ _ rfl
theorem dX12_card_5 : decode cX12_card 5 = .ok (.aload_n 0, 1) := DX12_card _ _ _ rfl
theorem dX12_card_6 : decode cX12_card 6 = .ok (.iload_n 1, 1) := DX12_card _ _ _ rfl
theorem dX12_card_7 : decode cX12_card 7 = .ok (.invokevirtual 221, 3) := DX12_card _ _ _ rfl
theorem dX12_card_10 : decode cX12_card 10 = .ok (.ifCond .eq 42, 3) := DX12_card _ _ _ rfl
theorem dX12_card_52 : decode cX12_card 52 = .ok (.iconst (-1), 1) := DX12_card _ _ _ rfl
theorem dX12_card_53 : decode cX12_card 53 = .ok (.ireturn, 1) := DX12_card _ _ _ rfl
theorem m_1717 : (Cond.code yX12_blank prog_14_method_77_code 3 (Option.some FieldType.boolean)) ∈ BW := bw (tb8 37 rfl) (by decide +kernel)
theorem dX12_blank_0 : decode cX12_blank 0 = .ok (.aload_n 0, 1) := DX12_blank _ _ _ rfl
theorem dX12_blank_1 : decode cX12_blank 1 = .ok (.iconst 0, 1) := DX12_blank _ _ _ rfl
theorem dX12_blank_2 : decode cX12_blank 2 = .ok (.putfield 160, 3) := DX12_blank _ _ _ rfl
theorem dX12_blank_5 : decode cX12_blank 5 = .ok (.aload_n 0, 1) := DX12_blank _ _ _ rfl
theorem dX12_blank_6 : decode cX12_blank 6 = .ok (.iload_n 1, 1) := DX12_blank _ _ _ rfl
theorem dX12_blank_7 : decode cX12_blank 7 = .ok (.invokevirtual 221, 3) := DX12_blank _ _ _ rfl
theorem dX12_blank_10 : decode cX12_blank 10 = .ok (.ifCond .ne 5, 3) := DX12_blank _ _ _ rfl
theorem dX12_blank_13 : decode cX12_blank 13 = .ok (.iconst 0, 1) := DX12_blank _ _ _ rfl
theorem dX12_blank_14 : decode cX12_blank 14 = .ok (.ireturn, 1) := DX12_blank _ _ _ rfl
theorem m_1721 : (Cond.code yX12_kept prog_14_method_78_code 10 (Option.some FieldType.int)) ∈ BW := bw (tb8 41 rfl) (by decide +kernel)
theorem dX12_kept_0 : decode cX12_kept 0 = .ok (.aload_n 0, 1) := DX12_kept _ _ _ rfl
theorem dX12_kept_1 : decode cX12_kept 1 = .ok (.iconst 0, 1) := DX12_kept _ _ _ rfl
theorem dX12_kept_2 : decode cX12_kept 2 = .ok (.putfield 160, 3) := DX12_kept _ _ _ rfl
theorem dX12_kept_5 : decode cX12_kept 5 = .ok (.aload_n 0, 1) := DX12_kept _ _ _ rfl
theorem dX12_kept_6 : decode cX12_kept 6 = .ok (.iload_n 1, 1) := DX12_kept _ _ _ rfl
theorem dX12_kept_7 : decode cX12_kept 7 = .ok (.invokevirtual 221, 3) := DX12_kept _ _ _ rfl
theorem dX12_kept_10 : decode cX12_kept 10 = .ok (.ifCond .eq 12, 3) := DX12_kept _ _ _ rfl
theorem dX12_kept_22 : decode cX12_kept 22 = .ok (.iconst (-1), 1) := DX12_kept _ _ _ rfl
theorem dX12_kept_23 : decode cX12_kept 23 = .ok (.ireturn, 1) := DX12_kept _ _ _ rfl
theorem m_1725 : (Cond.code yX12_tree prog_14_method_82_code 5 (Option.some FieldType.int)) ∈ BW := bw (tb8 45 rfl) (by decide +kernel)
theorem dX12_tree_0 : decode cX12_tree 0 = .ok (.aload_n 0, 1) := DX12_tree _ _ _ rfl
theorem dX12_tree_1 : decode cX12_tree 1 = .ok (.iconst 0, 1) := DX12_tree _ _ _ rfl
theorem dX12_tree_2 : decode cX12_tree 2 = .ok (.putfield 160, 3) := DX12_tree _ _ _ rfl
theorem dX12_tree_5 : decode cX12_tree 5 = .ok (.aload_n 0, 1) := DX12_tree _ _ _ rfl
theorem dX12_tree_6 : decode cX12_tree 6 = .ok (.iload_n 1, 1) := DX12_tree _ _ _ rfl
theorem dX12_tree_7 : decode cX12_tree 7 = .ok (.invokevirtual 221, 3) := DX12_tree _ _ _ rfl
theorem dX12_tree_10 : decode cX12_tree 10 = .ok (.ifCond .eq 29, 3) := DX12_tree _ _ _ rfl
theorem dX12_tree_39 : decode cX12_tree 39 = .ok (.iconst (-1), 1) := DX12_tree _ _ _ rfl
theorem dX12_tree_40 : decode cX12_tree 40 = .ok (.ireturn, 1) := DX12_tree _ _ _ rfl
theorem m_1742 : (Cond.code yX12_breaks prog_14_method_85_code 4 (Option.some FieldType.int)) ∈ BW := bw (tb8 62 rfl) (by decide +kernel)
theorem m_1754 : (Cond.code yX12_breaker prog_14_method_86_code 3 (Option.some FieldType.int)) ∈ BW := bw (tb8 74 rfl) (by decide +kernel)
theorem m_1773 : (Cond.code yX12_tale prog_14_method_90_code 5 (Option.some FieldType.boolean)) ∈ BW := bw (tb8 93 rfl) (by decide +kernel)
theorem dX12_tale_0 : decode cX12_tale 0 = .ok (.aload_n 0, 1) := DX12_tale _ _ _ rfl
theorem dX12_tale_1 : decode cX12_tale 1 = .ok (.iconst 0, 1) := DX12_tale _ _ _ rfl
theorem dX12_tale_2 : decode cX12_tale 2 = .ok (.putfield 160, 3) := DX12_tale _ _ _ rfl
theorem dX12_tale_5 : decode cX12_tale 5 = .ok (.aload_n 0, 1) := DX12_tale _ _ _ rfl
theorem dX12_tale_6 : decode cX12_tale 6 = .ok (.iload_n 1, 1) := DX12_tale _ _ _ rfl
theorem dX12_tale_7 : decode cX12_tale 7 = .ok (.invokevirtual 221, 3) := DX12_tale _ _ _ rfl
theorem dX12_tale_10 : decode cX12_tale 10 = .ok (.ifCond .eq 30, 3) := DX12_tale _ _ _ rfl
theorem dX12_tale_40 : decode cX12_tale 40 = .ok (.iconst 0, 1) := DX12_tale _ _ _ rfl
theorem dX12_tale_41 : decode cX12_tale 41 = .ok (.ireturn, 1) := DX12_tale _ _ _ rfl
theorem m_1777 : (Cond.code yX12_who prog_14_method_95_code 5 (Option.some FieldType.int)) ∈ BW := bw (tb8 97 rfl) (by decide +kernel)
theorem m_1797 : (Cond.code yX12_fits prog_14_method_96_code 7 (Option.some FieldType.int)) ∈ BW := bw (tb8 117 rfl) (by decide +kernel)
theorem dX12_fits_0 : decode cX12_fits 0 = .ok (.aload_n 0, 1) := DX12_fits _ _ _ rfl
theorem dX12_fits_1 : decode cX12_fits 1 = .ok (.iconst 0, 1) := DX12_fits _ _ _ rfl
theorem dX12_fits_2 : decode cX12_fits 2 = .ok (.putfield 160, 3) := DX12_fits _ _ _ rfl
theorem dX12_fits_5 : decode cX12_fits 5 = .ok (.aload_n 0, 1) := DX12_fits _ _ _ rfl
theorem dX12_fits_6 : decode cX12_fits 6 = .ok (.iload_n 1, 1) := DX12_fits _ _ _ rfl
theorem dX12_fits_7 : decode cX12_fits 7 = .ok (.invokevirtual 247, 3) := DX12_fits _ _ _ rfl
theorem dX12_fits_10 : decode cX12_fits 10 = .ok (.ifCond .eq 10, 3) := DX12_fits _ _ _ rfl
theorem dX12_fits_20 : decode cX12_fits 20 = .ok (.iconst (-1), 1) := DX12_fits _ _ _ rfl
theorem dX12_fits_21 : decode cX12_fits 21 = .ok (.ireturn, 1) := DX12_fits _ _ _ rfl
theorem m_1494 : (Cond.code yX12_line prog_14_method_26_code 5 (Option.some FieldType.int)) ∈ BW := bw (tb7 54 rfl) (by decide +kernel)

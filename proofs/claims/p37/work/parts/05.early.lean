theorem m_524 : (Cond.code yX11_valleyAt prog_1_method_39_code 2 (Option.some (FieldType.object "NoonValley$Valley"))) ∈ BW := bw (tb3 44 rfl) (by decide +kernel)
theorem dX11_valleyAt_0 : decode cX11_valleyAt 0 = .ok (.iload_n 1, 1) := DX11_valleyAt _ _ _ rfl
theorem dX11_valleyAt_1 : decode cX11_valleyAt 1 = .ok (.ifCond .lt 11, 3) := DX11_valleyAt _ _ _ rfl
theorem dX11_valleyAt_12 : decode cX11_valleyAt 12 = .ok (.aconst_null, 1) := DX11_valleyAt _ _ _ rfl
theorem dX11_valleyAt_13 : decode cX11_valleyAt 13 = .ok (.goto 9, 3) := DX11_valleyAt _ _ _ rfl
theorem dX11_valleyAt_22 : decode cX11_valleyAt 22 = .ok (.areturn, 1) := DX11_valleyAt _ _ _ rfl
theorem dX11_valleyAt_4 : decode cX11_valleyAt 4 = .ok (.iload_n 1, 1) := DX11_valleyAt _ _ _ rfl
theorem dX11_valleyAt_5 : decode cX11_valleyAt 5 = .ok (.aload_n 0, 1) := DX11_valleyAt _ _ _ rfl
theorem m_364 : (Cond.fieldLink "NoonValley" 94 "NoonValley" "valleyCount" "I") ∈ BW := bw (tb2 124 (by decide +kernel)) (by decide +kernel)
theorem dX11_valleyAt_6 : decode cX11_valleyAt 6 = .ok (.getfield 94, 3) := DX11_valleyAt _ _ _ rfl
theorem dX11_valleyAt_9 : decode cX11_valleyAt 9 = .ok (.if_icmp .lt 7, 3) := DX11_valleyAt _ _ _ rfl
theorem m_613 : (Cond.code yX11_planAt prog_1_method_40_code 2 (Option.some (FieldType.object "NoonValley$Plan"))) ∈ BW := bw (tb3 133 rfl) (by decide +kernel)
theorem dX11_planAt_0 : decode cX11_planAt 0 = .ok (.iload_n 1, 1) := DX11_planAt _ _ _ rfl
theorem dX11_planAt_1 : decode cX11_planAt 1 = .ok (.ifCond .lt 11, 3) := DX11_planAt _ _ _ rfl
theorem dX11_planAt_12 : decode cX11_planAt 12 = .ok (.aconst_null, 1) := DX11_planAt _ _ _ rfl
theorem dX11_planAt_13 : decode cX11_planAt 13 = .ok (.goto 9, 3) := DX11_planAt _ _ _ rfl
theorem dX11_planAt_22 : decode cX11_planAt 22 = .ok (.areturn, 1) := DX11_planAt _ _ _ rfl
theorem dX11_planAt_4 : decode cX11_planAt 4 = .ok (.iload_n 1, 1) := DX11_planAt _ _ _ rfl
theorem dX11_planAt_5 : decode cX11_planAt 5 = .ok (.aload_n 0, 1) := DX11_planAt _ _ _ rfl
theorem m_365 : (Cond.fieldLink "NoonValley" 151 "NoonValley" "planCount" "I") ∈ BW := bw (tb2 125 (by decide +kernel)) (by decide +kernel)
theorem dX11_planAt_6 : decode cX11_planAt 6 = .ok (.getfield 151, 3) := DX11_planAt _ _ _ rfl
theorem dX11_planAt_9 : decode cX11_planAt 9 = .ok (.if_icmp .lt 7, 3) := DX11_planAt _ _ _ rfl
theorem m_520 : (Cond.code yX11_told prog_1_method_6_code 5 (Option.some FieldType.int)) ∈ BW := bw (tb3 40 rfl) (by decide +kernel)
theorem m_521 : (Cond.methodLink "NoonValley" 101 yX11_valleyAt) ∈ BW := bw (tb3 41 (by decide +kernel)) (by decide +kernel)
theorem m_1 : (Cond.initialized "NoonValley") ∈ BW := bw (tb1 1 (by decide +kernel)) (by decide +kernel)
theorem m_523 : (Cond.instanceMethod yX11_valleyAt) ∈ BW := bw (tb3 43 (by decide +kernel)) (by decide +kernel)
theorem s_1_10 : (Cond.selects RX11 yX11_valleyAt yX11_valleyAt) ∈ BW := bw (sl1 (y := yX11_valleyAt) (n := 14) 10 (by decide +kernel)) (by decide +kernel)
theorem vX11_101 : LV RX11 101 RX11 yX11_valleyAt cX11_valleyAt 2 (some (.object "NoonValley$Valley")) 1 := ⟨m_521, m_523, s_1_10, m_1, m_524, rfl, by decide, by decide, by decide +kernel⟩
theorem m_528 : (Cond.code yX11_down prog_1_method_8_code 5 (Option.some FieldType.boolean)) ∈ BW := bw (tb3 48 rfl) (by decide +kernel)
theorem dX11_down_0 : decode cX11_down 0 = .ok (.aload_n 0, 1) := DX11_down _ _ _ rfl
theorem dX11_down_1 : decode cX11_down 1 = .ok (.iload_n 1, 1) := DX11_down _ _ _ rfl
theorem dX11_down_2 : decode cX11_down 2 = .ok (.invokevirtual 101, 3) := DX11_down _ _ _ rfl
theorem dX11_down_5 : decode cX11_down 5 = .ok (.astore 4, 2) := DX11_down _ _ _ rfl
theorem dX11_down_7 : decode cX11_down 7 = .ok (.aload 4, 2) := DX11_down _ _ _ rfl
theorem dX11_down_9 : decode cX11_down 9 = .ok (.ifnull 24, 3) := DX11_down _ _ _ rfl
theorem dX11_down_33 : decode cX11_down 33 = .ok (.iconst 0, 1) := DX11_down _ _ _ rfl
theorem dX11_down_34 : decode cX11_down 34 = .ok (.ireturn, 1) := DX11_down _ _ _ rfl
theorem m_543 : (Cond.code yX11_may prog_1_method_9_code 6 (Option.some FieldType.int)) ∈ BW := bw (tb3 63 rfl) (by decide +kernel)
theorem m_560 : (Cond.code yX11_plan prog_1_method_10_code 3 (Option.some FieldType.int)) ∈ BW := bw (tb3 80 rfl) (by decide +kernel)
theorem dX11_plan_0 : decode cX11_plan 0 = .ok (.aload_n 0, 1) := DX11_plan _ _ _ rfl
theorem dX11_plan_1 : decode cX11_plan 1 = .ok (.iload_n 1, 1) := DX11_plan _ _ _ rfl
theorem dX11_plan_2 : decode cX11_plan 2 = .ok (.invokevirtual 101, 3) := DX11_plan _ _ _ rfl
theorem dX11_plan_5 : decode cX11_plan 5 = .ok (.astore_n 2, 1) := DX11_plan _ _ _ rfl
theorem dX11_plan_6 : decode cX11_plan 6 = .ok (.aload_n 2, 1) := DX11_plan _ _ _ rfl
theorem dX11_plan_7 : decode cX11_plan 7 = .ok (.ifnull 12, 3) := DX11_plan _ _ _ rfl
theorem dX11_plan_19 : decode cX11_plan 19 = .ok (.iconst (-1), 1) := DX11_plan _ _ _ rfl
theorem dX11_plan_20 : decode cX11_plan 20 = .ok (.ireturn, 1) := DX11_plan _ _ _ rfl
theorem m_609 : (Cond.code yX11_call prog_1_method_11_code 8 (Option.some FieldType.int)) ∈ BW := bw (tb3 129 rfl) (by decide +kernel)
theorem dX11_call_0 : decode cX11_call 0 = .ok (.aload_n 0, 1) := DX11_call _ _ _ rfl
theorem dX11_call_1 : decode cX11_call 1 = .ok (.iload_n 1, 1) := DX11_call _ _ _ rfl
theorem m_610 : (Cond.methodLink "NoonValley" 157 yX11_planAt) ∈ BW := bw (tb3 130 (by decide +kernel)) (by decide +kernel)
theorem m_612 : (Cond.instanceMethod yX11_planAt) ∈ BW := bw (tb3 132 (by decide +kernel)) (by decide +kernel)
theorem s_1_11 : (Cond.selects RX11 yX11_planAt yX11_planAt) ∈ BW := bw (sl1 (y := yX11_planAt) (n := 14) 11 (by decide +kernel)) (by decide +kernel)
theorem vX11_157 : LV RX11 157 RX11 yX11_planAt cX11_planAt 2 (some (.object "NoonValley$Plan")) 1 := ⟨m_610, m_612, s_1_11, m_1, m_613, rfl, by decide, by decide, by decide +kernel⟩
theorem dX11_call_2 : decode cX11_call 2 = .ok (.invokevirtual 157, 3) := DX11_call _ _ _ rfl
theorem dX11_call_5 : decode cX11_call 5 = .ok (.astore 6, 2) := DX11_call _ _ _ rfl
theorem dX11_call_7 : decode cX11_call 7 = .ok (.aload 6, 2) := DX11_call _ _ _ rfl
theorem dX11_call_9 : decode cX11_call 9 = .ok (.ifnull 27, 3) := DX11_call _ _ _ rfl
theorem dX11_call_36 : decode cX11_call 36 = .ok (.iconst (-1), 1) := DX11_call _ _ _ rfl
theorem dX11_call_37 : decode cX11_call 37 = .ok (.ireturn, 1) := DX11_call _ _ _ rfl
theorem m_627 : (Cond.code yX11_lawful prog_1_method_12_code 4 (Option.some FieldType.int)) ∈ BW := bw (tb3 147 rfl) (by decide +kernel)
theorem m_640 : (Cond.code yX11_unlawful prog_1_method_13_code 4 (Option.some FieldType.int)) ∈ BW := bw (tb3 160 rfl) (by decide +kernel)
theorem m_644 : (Cond.code yX11_known prog_1_method_14_code 5 (Option.some FieldType.int)) ∈ BW := bw (tb3 164 rfl) (by decide +kernel)
theorem m_673 : (Cond.code yX11_together prog_1_method_15_code 7 (Option.some FieldType.int)) ∈ BW := bw (tb3 193 rfl) (by decide +kernel)
theorem m_681 : (Cond.code yX11_when prog_1_method_16_code 5 (Option.some FieldType.int)) ∈ BW := bw (tb3 201 rfl) (by decide +kernel)
theorem m_693 : (Cond.code yX11_least prog_1_method_17_code 5 (Option.some FieldType.int)) ∈ BW := bw (tb3 213 rfl) (by decide +kernel)
theorem m_784 : (Cond.code yX11_found prog_1_method_18_code 8 (Option.some FieldType.int)) ∈ BW := bw (tb4 64 rfl) (by decide +kernel)
theorem m_804 : (Cond.code yX11_reach prog_1_method_19_code 6 (Option.some FieldType.int)) ∈ BW := bw (tb4 84 rfl) (by decide +kernel)
theorem m_821 : (Cond.code yX11_from prog_1_method_20_code 5 (Option.some FieldType.int)) ∈ BW := bw (tb4 101 rfl) (by decide +kernel)
theorem m_836 : (Cond.code yX11_added prog_1_method_21_code 5 (Option.some FieldType.int)) ∈ BW := bw (tb4 116 rfl) (by decide +kernel)
theorem m_857 : (Cond.code yX11_shut prog_1_method_22_code 6 (Option.some FieldType.int)) ∈ BW := bw (tb4 137 rfl) (by decide +kernel)
theorem m_882 : (Cond.code yX11_fewest prog_1_method_23_code 3 (Option.some FieldType.int)) ∈ BW := bw (tb4 162 rfl) (by decide +kernel)
theorem m_922 : (Cond.code yX11_gossip prog_1_method_24_code 4 (Option.some FieldType.int)) ∈ BW := bw (tb4 202 rfl) (by decide +kernel)
theorem m_926 : (Cond.code yX11_ends prog_1_method_25_code 4 (Option.some FieldType.int)) ∈ BW := bw (tb4 206 rfl) (by decide +kernel)
theorem m_933 : (Cond.code yX11_trade prog_1_method_26_code 6 (Option.some FieldType.int)) ∈ BW := bw (tb4 213 rfl) (by decide +kernel)
theorem m_981 : (Cond.code yX11_card prog_1_method_27_code 5 (Option.some FieldType.int)) ∈ BW := bw (tb5 21 rfl) (by decide +kernel)
theorem dX11_card_0 : decode cX11_card 0 = .ok (.aload_n 0, 1) := DX11_card _ _ _ rfl
theorem dX11_card_1 : decode cX11_card 1 = .ok (.iload_n 1, 1) := DX11_card _ _ _ rfl
theorem dX11_card_2 : decode cX11_card 2 = .ok (.invokevirtual 101, 3) := DX11_card _ _ _ rfl
theorem dX11_card_5 : decode cX11_card 5 = .ok (.astore 4, 2) := DX11_card _ _ _ rfl
theorem dX11_card_7 : decode cX11_card 7 = .ok (.aload 4, 2) := DX11_card _ _ _ rfl
theorem dX11_card_9 : decode cX11_card 9 = .ok (.ifnull 13, 3) := DX11_card _ _ _ rfl
theorem dX11_card_22 : decode cX11_card 22 = .ok (.iconst (-1), 1) := DX11_card _ _ _ rfl
theorem dX11_card_23 : decode cX11_card 23 = .ok (.ireturn, 1) := DX11_card _ _ _ rfl
theorem m_989 : (Cond.code yX11_blank prog_1_method_28_code 3 (Option.some FieldType.boolean)) ∈ BW := bw (tb5 29 rfl) (by decide +kernel)
theorem dX11_blank_0 : decode cX11_blank 0 = .ok (.aload_n 0, 1) := DX11_blank _ _ _ rfl
theorem dX11_blank_1 : decode cX11_blank 1 = .ok (.iload_n 1, 1) := DX11_blank _ _ _ rfl
theorem dX11_blank_2 : decode cX11_blank 2 = .ok (.invokevirtual 101, 3) := DX11_blank _ _ _ rfl
theorem dX11_blank_5 : decode cX11_blank 5 = .ok (.astore_n 2, 1) := DX11_blank _ _ _ rfl
theorem dX11_blank_6 : decode cX11_blank 6 = .ok (.aload_n 2, 1) := DX11_blank _ _ _ rfl
theorem dX11_blank_7 : decode cX11_blank 7 = .ok (.ifnonnull 5, 3) := DX11_blank _ _ _ rfl
theorem dX11_blank_10 : decode cX11_blank 10 = .ok (.iconst 0, 1) := DX11_blank _ _ _ rfl
theorem dX11_blank_11 : decode cX11_blank 11 = .ok (.ireturn, 1) := DX11_blank _ _ _ rfl
theorem m_997 : (Cond.code yX11_kept prog_1_method_29_code 4 (Option.some FieldType.int)) ∈ BW := bw (tb5 37 rfl) (by decide +kernel)
theorem m_1017 : (Cond.code yX11_tree prog_1_method_30_code 6 (Option.some FieldType.int)) ∈ BW := bw (tb5 57 rfl) (by decide +kernel)
theorem m_1044 : (Cond.code yX11_breaks prog_1_method_31_code 5 (Option.some FieldType.int)) ∈ BW := bw (tb5 84 rfl) (by decide +kernel)
theorem m_1066 : (Cond.code yX11_breaker prog_1_method_32_code 3 (Option.some FieldType.int)) ∈ BW := bw (tb5 106 rfl) (by decide +kernel)
theorem m_1108 : (Cond.code yX11_tale prog_1_method_35_code 6 (Option.some FieldType.boolean)) ∈ BW := bw (tb5 148 rfl) (by decide +kernel)
theorem dX11_tale_0 : decode cX11_tale 0 = .ok (.aload_n 0, 1) := DX11_tale _ _ _ rfl
theorem dX11_tale_1 : decode cX11_tale 1 = .ok (.iload_n 1, 1) := DX11_tale _ _ _ rfl
theorem dX11_tale_2 : decode cX11_tale 2 = .ok (.invokevirtual 101, 3) := DX11_tale _ _ _ rfl
theorem dX11_tale_5 : decode cX11_tale 5 = .ok (.astore 5, 2) := DX11_tale _ _ _ rfl
theorem dX11_tale_7 : decode cX11_tale 7 = .ok (.aload 5, 2) := DX11_tale _ _ _ rfl
theorem dX11_tale_9 : decode cX11_tale 9 = .ok (.ifnull 33, 3) := DX11_tale _ _ _ rfl
theorem dX11_tale_42 : decode cX11_tale 42 = .ok (.iconst 0, 1) := DX11_tale _ _ _ rfl
theorem dX11_tale_43 : decode cX11_tale 43 = .ok (.ireturn, 1) := DX11_tale _ _ _ rfl
theorem m_1116 : (Cond.code yX11_who prog_1_method_36_code 6 (Option.some FieldType.int)) ∈ BW := bw (tb5 156 rfl) (by decide +kernel)
theorem m_1143 : (Cond.code yX11_fits prog_1_method_37_code 8 (Option.some FieldType.int)) ∈ BW := bw (tb5 183 rfl) (by decide +kernel)
theorem dX11_fits_0 : decode cX11_fits 0 = .ok (.aload_n 0, 1) := DX11_fits _ _ _ rfl
theorem dX11_fits_1 : decode cX11_fits 1 = .ok (.iload_n 1, 1) := DX11_fits _ _ _ rfl
theorem dX11_fits_2 : decode cX11_fits 2 = .ok (.invokevirtual 157, 3) := DX11_fits _ _ _ rfl
theorem dX11_fits_5 : decode cX11_fits 5 = .ok (.astore_n 3, 1) := DX11_fits _ _ _ rfl
theorem dX11_fits_6 : decode cX11_fits 6 = .ok (.aload_n 3, 1) := DX11_fits _ _ _ rfl
theorem dX11_fits_7 : decode cX11_fits 7 = .ok (.ifnull 10, 3) := DX11_fits _ _ _ rfl
theorem dX11_fits_17 : decode cX11_fits 17 = .ok (.iconst (-1), 1) := DX11_fits _ _ _ rfl
theorem dX11_fits_18 : decode cX11_fits 18 = .ok (.ireturn, 1) := DX11_fits _ _ _ rfl

theorem m_524 : (Cond.code yX11_valleyAt prog_1_method_39_code 2 (Option.some (FieldType.object "NoonValley$Valley"))) ∈ BW := bw (tb3 44 (by decide +kernel)) (by decide +kernel)
theorem dX11_valleyAt_0 : decode cX11_valleyAt 0 = .ok (.iload_n 1, 1) := by decide +kernel
theorem dX11_valleyAt_1 : decode cX11_valleyAt 1 = .ok (.ifCond .lt 11, 3) := by decide +kernel
theorem dX11_valleyAt_12 : decode cX11_valleyAt 12 = .ok (.aconst_null, 1) := by decide +kernel
theorem dX11_valleyAt_13 : decode cX11_valleyAt 13 = .ok (.goto 9, 3) := by decide +kernel
theorem dX11_valleyAt_22 : decode cX11_valleyAt 22 = .ok (.areturn, 1) := by decide +kernel
theorem dX11_valleyAt_4 : decode cX11_valleyAt 4 = .ok (.iload_n 1, 1) := by decide +kernel
theorem dX11_valleyAt_5 : decode cX11_valleyAt 5 = .ok (.aload_n 0, 1) := by decide +kernel
theorem m_364 : (Cond.fieldLink "NoonValley" 94 "NoonValley" "valleyCount" "I") ∈ BW := bw (tb2 124 (by decide +kernel)) (by decide +kernel)
theorem dX11_valleyAt_6 : decode cX11_valleyAt 6 = .ok (.getfield 94, 3) := by decide +kernel
theorem dX11_valleyAt_9 : decode cX11_valleyAt 9 = .ok (.if_icmp .lt 7, 3) := by decide +kernel
theorem m_613 : (Cond.code yX11_planAt prog_1_method_40_code 2 (Option.some (FieldType.object "NoonValley$Plan"))) ∈ BW := bw (tb3 133 (by decide +kernel)) (by decide +kernel)
theorem dX11_planAt_0 : decode cX11_planAt 0 = .ok (.iload_n 1, 1) := by decide +kernel
theorem dX11_planAt_1 : decode cX11_planAt 1 = .ok (.ifCond .lt 11, 3) := by decide +kernel
theorem dX11_planAt_12 : decode cX11_planAt 12 = .ok (.aconst_null, 1) := by decide +kernel
theorem dX11_planAt_13 : decode cX11_planAt 13 = .ok (.goto 9, 3) := by decide +kernel
theorem dX11_planAt_22 : decode cX11_planAt 22 = .ok (.areturn, 1) := by decide +kernel
theorem dX11_planAt_4 : decode cX11_planAt 4 = .ok (.iload_n 1, 1) := by decide +kernel
theorem dX11_planAt_5 : decode cX11_planAt 5 = .ok (.aload_n 0, 1) := by decide +kernel
theorem m_365 : (Cond.fieldLink "NoonValley" 151 "NoonValley" "planCount" "I") ∈ BW := bw (tb2 125 (by decide +kernel)) (by decide +kernel)
theorem dX11_planAt_6 : decode cX11_planAt 6 = .ok (.getfield 151, 3) := by decide +kernel
theorem dX11_planAt_9 : decode cX11_planAt 9 = .ok (.if_icmp .lt 7, 3) := by decide +kernel
theorem m_520 : (Cond.code yX11_told prog_1_method_6_code 5 (Option.some FieldType.int)) ∈ BW := bw (tb3 40 (by decide +kernel)) (by decide +kernel)
theorem dX11_told_0 : decode cX11_told 0 = .ok (.aload_n 0, 1) := by decide +kernel
theorem dX11_told_1 : decode cX11_told 1 = .ok (.iload_n 1, 1) := by decide +kernel
theorem m_521 : (Cond.methodLink "NoonValley" 101 yX11_valleyAt) ∈ BW := bw (tb3 41 (by decide +kernel)) (by decide +kernel)
theorem m_1 : (Cond.initialized "NoonValley") ∈ BW := bw (tb1 1 (by decide +kernel)) (by decide +kernel)
theorem m_523 : (Cond.instanceMethod yX11_valleyAt) ∈ BW := bw (tb3 43 (by decide +kernel)) (by decide +kernel)
theorem s_1_10 : (Cond.selects RX11 yX11_valleyAt yX11_valleyAt) ∈ BW := bw (sl1 (y := yX11_valleyAt) (n := 14) 10 (by decide +kernel)) (by decide +kernel)
theorem vX11_101 : LV RX11 101 RX11 yX11_valleyAt cX11_valleyAt 2 (some (.object "NoonValley$Valley")) 1 := ⟨m_521, m_523, s_1_10, m_1, m_524, rfl, by decide, by decide, by decide +kernel⟩
theorem dX11_told_2 : decode cX11_told 2 = .ok (.invokevirtual 101, 3) := by decide +kernel
theorem dX11_told_5 : decode cX11_told 5 = .ok (.astore_n 3, 1) := by decide +kernel
theorem dX11_told_6 : decode cX11_told 6 = .ok (.aload_n 3, 1) := by decide +kernel
theorem dX11_told_7 : decode cX11_told 7 = .ok (.ifnull 7, 3) := by decide +kernel
theorem dX11_told_14 : decode cX11_told 14 = .ok (.iconst (-1), 1) := by decide +kernel
theorem dX11_told_15 : decode cX11_told 15 = .ok (.ireturn, 1) := by decide +kernel
theorem m_528 : (Cond.code yX11_down prog_1_method_8_code 5 (Option.some FieldType.boolean)) ∈ BW := bw (tb3 48 (by decide +kernel)) (by decide +kernel)
theorem dX11_down_0 : decode cX11_down 0 = .ok (.aload_n 0, 1) := by decide +kernel
theorem dX11_down_1 : decode cX11_down 1 = .ok (.iload_n 1, 1) := by decide +kernel
theorem dX11_down_2 : decode cX11_down 2 = .ok (.invokevirtual 101, 3) := by decide +kernel
theorem dX11_down_5 : decode cX11_down 5 = .ok (.astore 4, 2) := by decide +kernel
theorem dX11_down_7 : decode cX11_down 7 = .ok (.aload 4, 2) := by decide +kernel
theorem dX11_down_9 : decode cX11_down 9 = .ok (.ifnull 24, 3) := by decide +kernel
theorem dX11_down_33 : decode cX11_down 33 = .ok (.iconst 0, 1) := by decide +kernel
theorem dX11_down_34 : decode cX11_down 34 = .ok (.ireturn, 1) := by decide +kernel
theorem m_543 : (Cond.code yX11_may prog_1_method_9_code 6 (Option.some FieldType.int)) ∈ BW := bw (tb3 63 (by decide +kernel)) (by decide +kernel)
theorem dX11_may_0 : decode cX11_may 0 = .ok (.aload_n 0, 1) := by decide +kernel
theorem dX11_may_1 : decode cX11_may 1 = .ok (.iload_n 1, 1) := by decide +kernel
theorem dX11_may_2 : decode cX11_may 2 = .ok (.invokevirtual 101, 3) := by decide +kernel
theorem dX11_may_5 : decode cX11_may 5 = .ok (.astore 5, 2) := by decide +kernel
theorem dX11_may_7 : decode cX11_may 7 = .ok (.aload 5, 2) := by decide +kernel
theorem dX11_may_9 : decode cX11_may 9 = .ok (.ifnull 21, 3) := by decide +kernel
theorem dX11_may_30 : decode cX11_may 30 = .ok (.iconst (-1), 1) := by decide +kernel
theorem dX11_may_31 : decode cX11_may 31 = .ok (.ireturn, 1) := by decide +kernel
theorem m_560 : (Cond.code yX11_plan prog_1_method_10_code 3 (Option.some FieldType.int)) ∈ BW := bw (tb3 80 (by decide +kernel)) (by decide +kernel)
theorem dX11_plan_0 : decode cX11_plan 0 = .ok (.aload_n 0, 1) := by decide +kernel
theorem dX11_plan_1 : decode cX11_plan 1 = .ok (.iload_n 1, 1) := by decide +kernel
theorem dX11_plan_2 : decode cX11_plan 2 = .ok (.invokevirtual 101, 3) := by decide +kernel
theorem dX11_plan_5 : decode cX11_plan 5 = .ok (.astore_n 2, 1) := by decide +kernel
theorem dX11_plan_6 : decode cX11_plan 6 = .ok (.aload_n 2, 1) := by decide +kernel
theorem dX11_plan_7 : decode cX11_plan 7 = .ok (.ifnull 12, 3) := by decide +kernel
theorem dX11_plan_19 : decode cX11_plan 19 = .ok (.iconst (-1), 1) := by decide +kernel
theorem dX11_plan_20 : decode cX11_plan 20 = .ok (.ireturn, 1) := by decide +kernel
theorem m_609 : (Cond.code yX11_call prog_1_method_11_code 8 (Option.some FieldType.int)) ∈ BW := bw (tb3 129 (by decide +kernel)) (by decide +kernel)
theorem dX11_call_0 : decode cX11_call 0 = .ok (.aload_n 0, 1) := by decide +kernel
theorem dX11_call_1 : decode cX11_call 1 = .ok (.iload_n 1, 1) := by decide +kernel
theorem m_610 : (Cond.methodLink "NoonValley" 157 yX11_planAt) ∈ BW := bw (tb3 130 (by decide +kernel)) (by decide +kernel)
theorem m_612 : (Cond.instanceMethod yX11_planAt) ∈ BW := bw (tb3 132 (by decide +kernel)) (by decide +kernel)
theorem s_1_11 : (Cond.selects RX11 yX11_planAt yX11_planAt) ∈ BW := bw (sl1 (y := yX11_planAt) (n := 14) 11 (by decide +kernel)) (by decide +kernel)
theorem vX11_157 : LV RX11 157 RX11 yX11_planAt cX11_planAt 2 (some (.object "NoonValley$Plan")) 1 := ⟨m_610, m_612, s_1_11, m_1, m_613, rfl, by decide, by decide, by decide +kernel⟩
theorem dX11_call_2 : decode cX11_call 2 = .ok (.invokevirtual 157, 3) := by decide +kernel
theorem dX11_call_5 : decode cX11_call 5 = .ok (.astore 6, 2) := by decide +kernel
theorem dX11_call_7 : decode cX11_call 7 = .ok (.aload 6, 2) := by decide +kernel
theorem dX11_call_9 : decode cX11_call 9 = .ok (.ifnull 27, 3) := by decide +kernel
theorem dX11_call_36 : decode cX11_call 36 = .ok (.iconst (-1), 1) := by decide +kernel
theorem dX11_call_37 : decode cX11_call 37 = .ok (.ireturn, 1) := by decide +kernel
theorem m_627 : (Cond.code yX11_lawful prog_1_method_12_code 4 (Option.some FieldType.int)) ∈ BW := bw (tb3 147 (by decide +kernel)) (by decide +kernel)
theorem dX11_lawful_0 : decode cX11_lawful 0 = .ok (.aload_n 0, 1) := by decide +kernel
theorem dX11_lawful_1 : decode cX11_lawful 1 = .ok (.iload_n 1, 1) := by decide +kernel
theorem dX11_lawful_2 : decode cX11_lawful 2 = .ok (.invokevirtual 157, 3) := by decide +kernel
theorem dX11_lawful_5 : decode cX11_lawful 5 = .ok (.astore_n 3, 1) := by decide +kernel
theorem dX11_lawful_6 : decode cX11_lawful 6 = .ok (.aload_n 3, 1) := by decide +kernel
theorem dX11_lawful_7 : decode cX11_lawful 7 = .ok (.ifnull 15, 3) := by decide +kernel
theorem dX11_lawful_22 : decode cX11_lawful 22 = .ok (.iconst (-1), 1) := by decide +kernel
theorem dX11_lawful_23 : decode cX11_lawful 23 = .ok (.ireturn, 1) := by decide +kernel
theorem m_640 : (Cond.code yX11_unlawful prog_1_method_13_code 4 (Option.some FieldType.int)) ∈ BW := bw (tb3 160 (by decide +kernel)) (by decide +kernel)
theorem dX11_unlawful_0 : decode cX11_unlawful 0 = .ok (.aload_n 0, 1) := by decide +kernel
theorem dX11_unlawful_1 : decode cX11_unlawful 1 = .ok (.iload_n 1, 1) := by decide +kernel
theorem dX11_unlawful_2 : decode cX11_unlawful 2 = .ok (.invokevirtual 157, 3) := by decide +kernel
theorem dX11_unlawful_5 : decode cX11_unlawful 5 = .ok (.astore_n 2, 1) := by decide +kernel
theorem dX11_unlawful_6 : decode cX11_unlawful 6 = .ok (.aload_n 2, 1) := by decide +kernel
theorem dX11_unlawful_7 : decode cX11_unlawful 7 = .ok (.ifnonnull 5, 3) := by decide +kernel
theorem dX11_unlawful_10 : decode cX11_unlawful 10 = .ok (.iconst (-1), 1) := by decide +kernel
theorem dX11_unlawful_11 : decode cX11_unlawful 11 = .ok (.ireturn, 1) := by decide +kernel
theorem m_644 : (Cond.code yX11_known prog_1_method_14_code 5 (Option.some FieldType.int)) ∈ BW := bw (tb3 164 (by decide +kernel)) (by decide +kernel)
theorem dX11_known_0 : decode cX11_known 0 = .ok (.aload_n 0, 1) := by decide +kernel
theorem dX11_known_1 : decode cX11_known 1 = .ok (.iload_n 1, 1) := by decide +kernel
theorem dX11_known_2 : decode cX11_known 2 = .ok (.invokevirtual 157, 3) := by decide +kernel
theorem dX11_known_5 : decode cX11_known 5 = .ok (.astore 4, 2) := by decide +kernel
theorem dX11_known_7 : decode cX11_known 7 = .ok (.aload 4, 2) := by decide +kernel
theorem dX11_known_9 : decode cX11_known 9 = .ok (.ifnull 22, 3) := by decide +kernel
theorem dX11_known_31 : decode cX11_known 31 = .ok (.iconst (-1), 1) := by decide +kernel
theorem dX11_known_32 : decode cX11_known 32 = .ok (.ireturn, 1) := by decide +kernel
theorem m_673 : (Cond.code yX11_together prog_1_method_15_code 7 (Option.some FieldType.int)) ∈ BW := bw (tb3 193 (by decide +kernel)) (by decide +kernel)
theorem dX11_together_0 : decode cX11_together 0 = .ok (.aload_n 0, 1) := by decide +kernel
theorem dX11_together_1 : decode cX11_together 1 = .ok (.iload_n 1, 1) := by decide +kernel
theorem dX11_together_2 : decode cX11_together 2 = .ok (.invokevirtual 157, 3) := by decide +kernel
theorem dX11_together_5 : decode cX11_together 5 = .ok (.astore 4, 2) := by decide +kernel
theorem dX11_together_7 : decode cX11_together 7 = .ok (.aload 4, 2) := by decide +kernel
theorem dX11_together_9 : decode cX11_together 9 = .ok (.ifnull 27, 3) := by decide +kernel
theorem dX11_together_36 : decode cX11_together 36 = .ok (.iconst (-1), 1) := by decide +kernel
theorem dX11_together_37 : decode cX11_together 37 = .ok (.ireturn, 1) := by decide +kernel
theorem m_681 : (Cond.code yX11_when prog_1_method_16_code 5 (Option.some FieldType.int)) ∈ BW := bw (tb3 201 (by decide +kernel)) (by decide +kernel)
theorem dX11_when_0 : decode cX11_when 0 = .ok (.aload_n 0, 1) := by decide +kernel
theorem dX11_when_1 : decode cX11_when 1 = .ok (.iload_n 1, 1) := by decide +kernel
theorem dX11_when_2 : decode cX11_when 2 = .ok (.invokevirtual 157, 3) := by decide +kernel
theorem dX11_when_5 : decode cX11_when 5 = .ok (.astore_n 3, 1) := by decide +kernel
theorem dX11_when_6 : decode cX11_when 6 = .ok (.aload_n 3, 1) := by decide +kernel
theorem dX11_when_7 : decode cX11_when 7 = .ok (.ifnull 12, 3) := by decide +kernel
theorem dX11_when_19 : decode cX11_when 19 = .ok (.iconst (-1), 1) := by decide +kernel
theorem dX11_when_20 : decode cX11_when 20 = .ok (.ireturn, 1) := by decide +kernel
theorem m_693 : (Cond.code yX11_least prog_1_method_17_code 5 (Option.some FieldType.int)) ∈ BW := bw (tb3 213 (by decide +kernel)) (by decide +kernel)
theorem dX11_least_0 : decode cX11_least 0 = .ok (.aload_n 0, 1) := by decide +kernel
theorem dX11_least_1 : decode cX11_least 1 = .ok (.iload_n 1, 1) := by decide +kernel
theorem dX11_least_2 : decode cX11_least 2 = .ok (.invokevirtual 101, 3) := by decide +kernel
theorem dX11_least_5 : decode cX11_least 5 = .ok (.astore 4, 2) := by decide +kernel
theorem dX11_least_7 : decode cX11_least 7 = .ok (.aload 4, 2) := by decide +kernel
theorem dX11_least_9 : decode cX11_least 9 = .ok (.ifnull 17, 3) := by decide +kernel
theorem dX11_least_26 : decode cX11_least 26 = .ok (.iconst (-1), 1) := by decide +kernel
theorem dX11_least_27 : decode cX11_least 27 = .ok (.ireturn, 1) := by decide +kernel
theorem m_784 : (Cond.code yX11_found prog_1_method_18_code 8 (Option.some FieldType.int)) ∈ BW := bw (tb4 64 (by decide +kernel)) (by decide +kernel)
theorem dX11_found_0 : decode cX11_found 0 = .ok (.aload_n 0, 1) := by decide +kernel
theorem dX11_found_1 : decode cX11_found 1 = .ok (.iload_n 1, 1) := by decide +kernel
theorem dX11_found_2 : decode cX11_found 2 = .ok (.invokevirtual 101, 3) := by decide +kernel
theorem dX11_found_5 : decode cX11_found 5 = .ok (.astore 6, 2) := by decide +kernel
theorem dX11_found_7 : decode cX11_found 7 = .ok (.aload 6, 2) := by decide +kernel
theorem dX11_found_9 : decode cX11_found 9 = .ok (.ifnull 32, 3) := by decide +kernel
theorem dX11_found_41 : decode cX11_found 41 = .ok (.iconst (-1), 1) := by decide +kernel
theorem dX11_found_42 : decode cX11_found 42 = .ok (.ireturn, 1) := by decide +kernel
theorem m_804 : (Cond.code yX11_reach prog_1_method_19_code 6 (Option.some FieldType.int)) ∈ BW := bw (tb4 84 (by decide +kernel)) (by decide +kernel)
theorem dX11_reach_0 : decode cX11_reach 0 = .ok (.aload_n 0, 1) := by decide +kernel
theorem dX11_reach_1 : decode cX11_reach 1 = .ok (.iload_n 1, 1) := by decide +kernel
theorem dX11_reach_2 : decode cX11_reach 2 = .ok (.invokevirtual 101, 3) := by decide +kernel
theorem dX11_reach_5 : decode cX11_reach 5 = .ok (.astore 5, 2) := by decide +kernel
theorem dX11_reach_7 : decode cX11_reach 7 = .ok (.aload 5, 2) := by decide +kernel
theorem dX11_reach_9 : decode cX11_reach 9 = .ok (.ifnull 31, 3) := by decide +kernel
theorem dX11_reach_40 : decode cX11_reach 40 = .ok (.iconst (-1), 1) := by decide +kernel
theorem dX11_reach_41 : decode cX11_reach 41 = .ok (.ireturn, 1) := by decide +kernel
theorem m_821 : (Cond.code yX11_from prog_1_method_20_code 5 (Option.some FieldType.int)) ∈ BW := bw (tb4 101 (by decide +kernel)) (by decide +kernel)
theorem dX11_from_0 : decode cX11_from 0 = .ok (.aload_n 0, 1) := by decide +kernel
theorem dX11_from_1 : decode cX11_from 1 = .ok (.iload_n 1, 1) := by decide +kernel
theorem dX11_from_2 : decode cX11_from 2 = .ok (.invokevirtual 157, 3) := by decide +kernel
theorem dX11_from_5 : decode cX11_from 5 = .ok (.astore 4, 2) := by decide +kernel
theorem dX11_from_7 : decode cX11_from 7 = .ok (.aload 4, 2) := by decide +kernel
theorem dX11_from_9 : decode cX11_from 9 = .ok (.ifnull 23, 3) := by decide +kernel
theorem dX11_from_32 : decode cX11_from 32 = .ok (.iconst (-1), 1) := by decide +kernel
theorem dX11_from_33 : decode cX11_from 33 = .ok (.ireturn, 1) := by decide +kernel
theorem m_836 : (Cond.code yX11_added prog_1_method_21_code 5 (Option.some FieldType.int)) ∈ BW := bw (tb4 116 (by decide +kernel)) (by decide +kernel)
theorem dX11_added_0 : decode cX11_added 0 = .ok (.aload_n 0, 1) := by decide +kernel
theorem dX11_added_1 : decode cX11_added 1 = .ok (.iload_n 1, 1) := by decide +kernel
theorem dX11_added_2 : decode cX11_added 2 = .ok (.invokevirtual 101, 3) := by decide +kernel
theorem dX11_added_5 : decode cX11_added 5 = .ok (.astore 4, 2) := by decide +kernel
theorem dX11_added_7 : decode cX11_added 7 = .ok (.aload 4, 2) := by decide +kernel
theorem dX11_added_9 : decode cX11_added 9 = .ok (.ifnull 32, 3) := by decide +kernel
theorem dX11_added_41 : decode cX11_added 41 = .ok (.iconst (-1), 1) := by decide +kernel
theorem dX11_added_42 : decode cX11_added 42 = .ok (.ireturn, 1) := by decide +kernel
theorem m_857 : (Cond.code yX11_shut prog_1_method_22_code 6 (Option.some FieldType.int)) ∈ BW := bw (tb4 137 (by decide +kernel)) (by decide +kernel)
theorem dX11_shut_0 : decode cX11_shut 0 = .ok (.aload_n 0, 1) := by decide +kernel
theorem dX11_shut_1 : decode cX11_shut 1 = .ok (.iload_n 1, 1) := by decide +kernel
theorem dX11_shut_2 : decode cX11_shut 2 = .ok (.invokevirtual 101, 3) := by decide +kernel
theorem dX11_shut_5 : decode cX11_shut 5 = .ok (.astore 5, 2) := by decide +kernel
theorem dX11_shut_7 : decode cX11_shut 7 = .ok (.aload 5, 2) := by decide +kernel
theorem dX11_shut_9 : decode cX11_shut 9 = .ok (.ifnull 27, 3) := by decide +kernel
theorem dX11_shut_36 : decode cX11_shut 36 = .ok (.iconst (-1), 1) := by decide +kernel
theorem dX11_shut_37 : decode cX11_shut 37 = .ok (.ireturn, 1) := by decide +kernel
theorem m_882 : (Cond.code yX11_fewest prog_1_method_23_code 3 (Option.some FieldType.int)) ∈ BW := bw (tb4 162 (by decide +kernel)) (by decide +kernel)
theorem dX11_fewest_0 : decode cX11_fewest 0 = .ok (.aload_n 0, 1) := by decide +kernel
theorem dX11_fewest_1 : decode cX11_fewest 1 = .ok (.iload_n 1, 1) := by decide +kernel
theorem dX11_fewest_2 : decode cX11_fewest 2 = .ok (.invokevirtual 101, 3) := by decide +kernel
theorem dX11_fewest_5 : decode cX11_fewest 5 = .ok (.astore_n 2, 1) := by decide +kernel
theorem dX11_fewest_6 : decode cX11_fewest 6 = .ok (.aload_n 2, 1) := by decide +kernel
theorem dX11_fewest_7 : decode cX11_fewest 7 = .ok (.ifnonnull 7, 3) := by decide +kernel
theorem dX11_fewest_10 : decode cX11_fewest 10 = .ok (.iconst (-1), 1) := by decide +kernel
theorem dX11_fewest_11 : decode cX11_fewest 11 = .ok (.goto 11, 3) := by decide +kernel
theorem dX11_fewest_22 : decode cX11_fewest 22 = .ok (.ireturn, 1) := by decide +kernel
theorem m_922 : (Cond.code yX11_gossip prog_1_method_24_code 4 (Option.some FieldType.int)) ∈ BW := bw (tb4 202 (by decide +kernel)) (by decide +kernel)
theorem dX11_gossip_0 : decode cX11_gossip 0 = .ok (.aload_n 0, 1) := by decide +kernel
theorem dX11_gossip_1 : decode cX11_gossip 1 = .ok (.iload_n 1, 1) := by decide +kernel
theorem dX11_gossip_2 : decode cX11_gossip 2 = .ok (.invokevirtual 101, 3) := by decide +kernel
theorem dX11_gossip_5 : decode cX11_gossip 5 = .ok (.astore_n 3, 1) := by decide +kernel
theorem dX11_gossip_6 : decode cX11_gossip 6 = .ok (.aload_n 3, 1) := by decide +kernel
theorem dX11_gossip_7 : decode cX11_gossip 7 = .ok (.ifnull 19, 3) := by decide +kernel
theorem dX11_gossip_26 : decode cX11_gossip 26 = .ok (.iconst (-1), 1) := by decide +kernel
theorem dX11_gossip_27 : decode cX11_gossip 27 = .ok (.ireturn, 1) := by decide +kernel
theorem m_926 : (Cond.code yX11_ends prog_1_method_25_code 4 (Option.some FieldType.int)) ∈ BW := bw (tb4 206 (by decide +kernel)) (by decide +kernel)
theorem dX11_ends_0 : decode cX11_ends 0 = .ok (.aload_n 0, 1) := by decide +kernel
theorem dX11_ends_1 : decode cX11_ends 1 = .ok (.iload_n 1, 1) := by decide +kernel
theorem dX11_ends_2 : decode cX11_ends 2 = .ok (.invokevirtual 101, 3) := by decide +kernel
theorem dX11_ends_5 : decode cX11_ends 5 = .ok (.astore_n 3, 1) := by decide +kernel
theorem dX11_ends_6 : decode cX11_ends 6 = .ok (.aload_n 3, 1) := by decide +kernel
theorem dX11_ends_7 : decode cX11_ends 7 = .ok (.ifnull 19, 3) := by decide +kernel
theorem dX11_ends_26 : decode cX11_ends 26 = .ok (.iconst (-1), 1) := by decide +kernel
theorem dX11_ends_27 : decode cX11_ends 27 = .ok (.ireturn, 1) := by decide +kernel
theorem m_933 : (Cond.code yX11_trade prog_1_method_26_code 6 (Option.some FieldType.int)) ∈ BW := bw (tb4 213 (by decide +kernel)) (by decide +kernel)
theorem dX11_trade_0 : decode cX11_trade 0 = .ok (.aload_n 0, 1) := by decide +kernel
theorem dX11_trade_1 : decode cX11_trade 1 = .ok (.iload_n 1, 1) := by decide +kernel
theorem dX11_trade_2 : decode cX11_trade 2 = .ok (.invokevirtual 101, 3) := by decide +kernel
theorem dX11_trade_5 : decode cX11_trade 5 = .ok (.astore 4, 2) := by decide +kernel
theorem dX11_trade_7 : decode cX11_trade 7 = .ok (.aload 4, 2) := by decide +kernel
theorem dX11_trade_9 : decode cX11_trade 9 = .ok (.ifnull 32, 3) := by decide +kernel
theorem dX11_trade_41 : decode cX11_trade 41 = .ok (.iconst (-1), 1) := by decide +kernel
theorem dX11_trade_42 : decode cX11_trade 42 = .ok (.ireturn, 1) := by decide +kernel
theorem m_981 : (Cond.code yX11_card prog_1_method_27_code 5 (Option.some FieldType.int)) ∈ BW := bw (tb5 21 (by decide +kernel)) (by decide +kernel)
theorem dX11_card_0 : decode cX11_card 0 = .ok (.aload_n 0, 1) := by decide +kernel
theorem dX11_card_1 : decode cX11_card 1 = .ok (.iload_n 1, 1) := by decide +kernel
theorem dX11_card_2 : decode cX11_card 2 = .ok (.invokevirtual 101, 3) := by decide +kernel
theorem dX11_card_5 : decode cX11_card 5 = .ok (.astore 4, 2) := by decide +kernel
theorem dX11_card_7 : decode cX11_card 7 = .ok (.aload 4, 2) := by decide +kernel
theorem dX11_card_9 : decode cX11_card 9 = .ok (.ifnull 13, 3) := by decide +kernel
theorem dX11_card_22 : decode cX11_card 22 = .ok (.iconst (-1), 1) := by decide +kernel
theorem dX11_card_23 : decode cX11_card 23 = .ok (.ireturn, 1) := by decide +kernel
theorem m_989 : (Cond.code yX11_blank prog_1_method_28_code 3 (Option.some FieldType.boolean)) ∈ BW := bw (tb5 29 (by decide +kernel)) (by decide +kernel)
theorem dX11_blank_0 : decode cX11_blank 0 = .ok (.aload_n 0, 1) := by decide +kernel
theorem dX11_blank_1 : decode cX11_blank 1 = .ok (.iload_n 1, 1) := by decide +kernel
theorem dX11_blank_2 : decode cX11_blank 2 = .ok (.invokevirtual 101, 3) := by decide +kernel
theorem dX11_blank_5 : decode cX11_blank 5 = .ok (.astore_n 2, 1) := by decide +kernel
theorem dX11_blank_6 : decode cX11_blank 6 = .ok (.aload_n 2, 1) := by decide +kernel
theorem dX11_blank_7 : decode cX11_blank 7 = .ok (.ifnonnull 5, 3) := by decide +kernel
theorem dX11_blank_10 : decode cX11_blank 10 = .ok (.iconst 0, 1) := by decide +kernel
theorem dX11_blank_11 : decode cX11_blank 11 = .ok (.ireturn, 1) := by decide +kernel
theorem m_997 : (Cond.code yX11_kept prog_1_method_29_code 4 (Option.some FieldType.int)) ∈ BW := bw (tb5 37 (by decide +kernel)) (by decide +kernel)
theorem dX11_kept_0 : decode cX11_kept 0 = .ok (.aload_n 0, 1) := by decide +kernel
theorem dX11_kept_1 : decode cX11_kept 1 = .ok (.iload_n 1, 1) := by decide +kernel
theorem dX11_kept_2 : decode cX11_kept 2 = .ok (.invokevirtual 101, 3) := by decide +kernel
theorem dX11_kept_5 : decode cX11_kept 5 = .ok (.astore_n 3, 1) := by decide +kernel
theorem dX11_kept_6 : decode cX11_kept 6 = .ok (.aload_n 3, 1) := by decide +kernel
theorem dX11_kept_7 : decode cX11_kept 7 = .ok (.ifnull 11, 3) := by decide +kernel
theorem dX11_kept_18 : decode cX11_kept 18 = .ok (.iconst (-1), 1) := by decide +kernel
theorem dX11_kept_19 : decode cX11_kept 19 = .ok (.ireturn, 1) := by decide +kernel
theorem m_1017 : (Cond.code yX11_tree prog_1_method_30_code 6 (Option.some FieldType.int)) ∈ BW := bw (tb5 57 (by decide +kernel)) (by decide +kernel)
theorem dX11_tree_0 : decode cX11_tree 0 = .ok (.aload_n 0, 1) := by decide +kernel
theorem dX11_tree_1 : decode cX11_tree 1 = .ok (.iload_n 1, 1) := by decide +kernel
theorem dX11_tree_2 : decode cX11_tree 2 = .ok (.invokevirtual 101, 3) := by decide +kernel
theorem dX11_tree_5 : decode cX11_tree 5 = .ok (.astore 5, 2) := by decide +kernel
theorem dX11_tree_7 : decode cX11_tree 7 = .ok (.aload 5, 2) := by decide +kernel
theorem dX11_tree_9 : decode cX11_tree 9 = .ok (.ifnull 40, 3) := by decide +kernel
theorem dX11_tree_49 : decode cX11_tree 49 = .ok (.iconst (-1), 1) := by decide +kernel
theorem dX11_tree_50 : decode cX11_tree 50 = .ok (.ireturn, 1) := by decide +kernel
theorem m_1044 : (Cond.code yX11_breaks prog_1_method_31_code 5 (Option.some FieldType.int)) ∈ BW := bw (tb5 84 (by decide +kernel)) (by decide +kernel)
theorem dX11_breaks_0 : decode cX11_breaks 0 = .ok (.aload_n 0, 1) := by decide +kernel
theorem dX11_breaks_1 : decode cX11_breaks 1 = .ok (.iload_n 1, 1) := by decide +kernel
theorem dX11_breaks_2 : decode cX11_breaks 2 = .ok (.invokevirtual 157, 3) := by decide +kernel
theorem dX11_breaks_5 : decode cX11_breaks 5 = .ok (.astore_n 3, 1) := by decide +kernel
theorem dX11_breaks_6 : decode cX11_breaks 6 = .ok (.aload_n 3, 1) := by decide +kernel
theorem dX11_breaks_7 : decode cX11_breaks 7 = .ok (.ifnull 8, 3) := by decide +kernel
theorem dX11_breaks_15 : decode cX11_breaks 15 = .ok (.iconst (-1), 1) := by decide +kernel
theorem dX11_breaks_16 : decode cX11_breaks 16 = .ok (.ireturn, 1) := by decide +kernel
theorem m_1066 : (Cond.code yX11_breaker prog_1_method_32_code 3 (Option.some FieldType.int)) ∈ BW := bw (tb5 106 (by decide +kernel)) (by decide +kernel)
theorem dX11_breaker_0 : decode cX11_breaker 0 = .ok (.aload_n 0, 1) := by decide +kernel
theorem dX11_breaker_1 : decode cX11_breaker 1 = .ok (.iload_n 1, 1) := by decide +kernel
theorem dX11_breaker_2 : decode cX11_breaker 2 = .ok (.invokevirtual 157, 3) := by decide +kernel
theorem dX11_breaker_5 : decode cX11_breaker 5 = .ok (.astore_n 2, 1) := by decide +kernel
theorem dX11_breaker_6 : decode cX11_breaker 6 = .ok (.aload_n 2, 1) := by decide +kernel
theorem dX11_breaker_7 : decode cX11_breaker 7 = .ok (.ifnonnull 7, 3) := by decide +kernel
theorem dX11_breaker_10 : decode cX11_breaker 10 = .ok (.iconst (-1), 1) := by decide +kernel
theorem dX11_breaker_11 : decode cX11_breaker 11 = .ok (.goto 11, 3) := by decide +kernel
theorem dX11_breaker_22 : decode cX11_breaker 22 = .ok (.ireturn, 1) := by decide +kernel
theorem m_1108 : (Cond.code yX11_tale prog_1_method_35_code 6 (Option.some FieldType.boolean)) ∈ BW := bw (tb5 148 (by decide +kernel)) (by decide +kernel)
theorem dX11_tale_0 : decode cX11_tale 0 = .ok (.aload_n 0, 1) := by decide +kernel
theorem dX11_tale_1 : decode cX11_tale 1 = .ok (.iload_n 1, 1) := by decide +kernel
theorem dX11_tale_2 : decode cX11_tale 2 = .ok (.invokevirtual 101, 3) := by decide +kernel
theorem dX11_tale_5 : decode cX11_tale 5 = .ok (.astore 5, 2) := by decide +kernel
theorem dX11_tale_7 : decode cX11_tale 7 = .ok (.aload 5, 2) := by decide +kernel
theorem dX11_tale_9 : decode cX11_tale 9 = .ok (.ifnull 33, 3) := by decide +kernel
theorem dX11_tale_42 : decode cX11_tale 42 = .ok (.iconst 0, 1) := by decide +kernel
theorem dX11_tale_43 : decode cX11_tale 43 = .ok (.ireturn, 1) := by decide +kernel
theorem m_1116 : (Cond.code yX11_who prog_1_method_36_code 6 (Option.some FieldType.int)) ∈ BW := bw (tb5 156 (by decide +kernel)) (by decide +kernel)
theorem dX11_who_0 : decode cX11_who 0 = .ok (.aload_n 0, 1) := by decide +kernel
theorem dX11_who_1 : decode cX11_who 1 = .ok (.iload_n 1, 1) := by decide +kernel
theorem dX11_who_2 : decode cX11_who 2 = .ok (.invokevirtual 101, 3) := by decide +kernel
theorem dX11_who_5 : decode cX11_who 5 = .ok (.astore_n 3, 1) := by decide +kernel
theorem dX11_who_6 : decode cX11_who 6 = .ok (.aload_n 3, 1) := by decide +kernel
theorem dX11_who_7 : decode cX11_who 7 = .ok (.ifnull 10, 3) := by decide +kernel
theorem dX11_who_17 : decode cX11_who 17 = .ok (.iconst (-1), 1) := by decide +kernel
theorem dX11_who_18 : decode cX11_who 18 = .ok (.ireturn, 1) := by decide +kernel
theorem m_1143 : (Cond.code yX11_fits prog_1_method_37_code 8 (Option.some FieldType.int)) ∈ BW := bw (tb5 183 (by decide +kernel)) (by decide +kernel)
theorem dX11_fits_0 : decode cX11_fits 0 = .ok (.aload_n 0, 1) := by decide +kernel
theorem dX11_fits_1 : decode cX11_fits 1 = .ok (.iload_n 1, 1) := by decide +kernel
theorem dX11_fits_2 : decode cX11_fits 2 = .ok (.invokevirtual 157, 3) := by decide +kernel
theorem dX11_fits_5 : decode cX11_fits 5 = .ok (.astore_n 3, 1) := by decide +kernel
theorem dX11_fits_6 : decode cX11_fits 6 = .ok (.aload_n 3, 1) := by decide +kernel
theorem dX11_fits_7 : decode cX11_fits 7 = .ok (.ifnull 10, 3) := by decide +kernel
theorem dX11_fits_17 : decode cX11_fits 17 = .ok (.iconst (-1), 1) := by decide +kernel
theorem dX11_fits_18 : decode cX11_fits 18 = .ok (.ireturn, 1) := by decide +kernel
set_option maxHeartbeats 4000000 in
set_option maxRecDepth 100000 in
theorem C_X11_valleyAt (l : Launch) (g : GG) (h0 a0 a1 a2 a3 a4 a5 a6 a7 a8 a9 a10 : Nat) (p0 : Int32) : MetQ l g yX11_valleyAt cX11_valleyAt 2 (some (.object "NoonValley$Valley")) 0 0 0 [.ref h0, .int p0] [(h0, .inr (11, [.ref a0, .ref a1, .ref a2, .ref a3, .ref a4, .ref a5, .ref a6, .ref a7, .ref a8, .ref a9, .ref a10, .int 0, .int 0, .int 0]))] (fun r u => r = none ∧ u = [(h0, .inr (11, [.ref a0, .ref a1, .ref a2, .ref a3, .ref a4, .ref a5, .ref a6, .ref a7, .ref a8, .ref a9, .ref a10, .int 0, .int 0, .int 0]))]) := by
  refine MetQ.of (own := RX11) rfl (by decide) (Nat.le_of_ble_eq_true rfl) ?_
  intro p e s m below meth c A ls args Q hQ X hr hin hW hl
  have hx := X.1
  have hb := X.2.1
  have hl : lv_has ls 2 [(0, .ref h0), (1, .int p0)] := hl
  refine lv_iload_n (pc := 0) hx hb dX11_valleyAt_0 rfl (lv_at hl 1 rfl) ?_
  refine lv_if_lt (tgt := 12) (pc := 1) hx hb dX11_valleyAt_1 rfl (fun c1 => ?_) (fun c1 => ?_)
  · refine lv_null (pc := 12) hx hb dX11_valleyAt_12 ?_
    refine lv_goto (tgt := 22) (pc := 13) hx hb dX11_valleyAt_13 rfl ?_
    exact e_q X hQ hr (Or.inl ⟨_, rfl⟩) hW (u := [(h0, .inr (11, [.ref a0, .ref a1, .ref a2, .ref a3, .ref a4, .ref a5, .ref a6, .ref a7, .ref a8, .ref a9, .ref a10, .int 0, .int 0, .int 0]))]) none rfl [0] rfl rfl (⟨rfl, rfl⟩) ⟨Nat.le_of_ble_eq_true rfl, Nat.le_of_ble_eq_true rfl⟩ dX11_valleyAt_22
  · refine lv_iload_n (pc := 4) hx hb dX11_valleyAt_4 rfl (lv_at hl 1 rfl) ?_
    refine lv_aload_n (pc := 5) hx hb dX11_valleyAt_5 rfl (lv_at hl 0 rfl) ?_
    refine r_get X hW 0 ciX11 11 rfl (by decide) m_364 rfl rfl dX11_valleyAt_6 ?_
    refine lv_icmp_lt (tgt := 16) (pc := 9) hx hb dX11_valleyAt_9 rfl (fun c2 => absurd c2 c1) (fun c2 => ?_)
    refine lv_null (pc := 12) hx hb dX11_valleyAt_12 ?_
    refine lv_goto (tgt := 22) (pc := 13) hx hb dX11_valleyAt_13 rfl ?_
    exact e_q X hQ hr (Or.inl ⟨_, rfl⟩) hW (u := [(h0, .inr (11, [.ref a0, .ref a1, .ref a2, .ref a3, .ref a4, .ref a5, .ref a6, .ref a7, .ref a8, .ref a9, .ref a10, .int 0, .int 0, .int 0]))]) none rfl [0] rfl rfl (⟨rfl, rfl⟩) ⟨Nat.le_of_ble_eq_true rfl, Nat.le_of_ble_eq_true rfl⟩ dX11_valleyAt_22

set_option maxHeartbeats 4000000 in
set_option maxRecDepth 100000 in
theorem C_X11_planAt (l : Launch) (g : GG) (h0 a0 a1 a2 a3 a4 a5 a6 a7 a8 a9 a10 : Nat) (p0 : Int32) : MetQ l g yX11_planAt cX11_planAt 2 (some (.object "NoonValley$Plan")) 0 0 0 [.ref h0, .int p0] [(h0, .inr (11, [.ref a0, .ref a1, .ref a2, .ref a3, .ref a4, .ref a5, .ref a6, .ref a7, .ref a8, .ref a9, .ref a10, .int 0, .int 0, .int 0]))] (fun r u => r = none ∧ u = [(h0, .inr (11, [.ref a0, .ref a1, .ref a2, .ref a3, .ref a4, .ref a5, .ref a6, .ref a7, .ref a8, .ref a9, .ref a10, .int 0, .int 0, .int 0]))]) := by
  refine MetQ.of (own := RX11) rfl (by decide) (Nat.le_of_ble_eq_true rfl) ?_
  intro p e s m below meth c A ls args Q hQ X hr hin hW hl
  have hx := X.1
  have hb := X.2.1
  have hl : lv_has ls 2 [(0, .ref h0), (1, .int p0)] := hl
  refine lv_iload_n (pc := 0) hx hb dX11_planAt_0 rfl (lv_at hl 1 rfl) ?_
  refine lv_if_lt (tgt := 12) (pc := 1) hx hb dX11_planAt_1 rfl (fun c1 => ?_) (fun c1 => ?_)
  · refine lv_null (pc := 12) hx hb dX11_planAt_12 ?_
    refine lv_goto (tgt := 22) (pc := 13) hx hb dX11_planAt_13 rfl ?_
    exact e_q X hQ hr (Or.inl ⟨_, rfl⟩) hW (u := [(h0, .inr (11, [.ref a0, .ref a1, .ref a2, .ref a3, .ref a4, .ref a5, .ref a6, .ref a7, .ref a8, .ref a9, .ref a10, .int 0, .int 0, .int 0]))]) none rfl [0] rfl rfl (⟨rfl, rfl⟩) ⟨Nat.le_of_ble_eq_true rfl, Nat.le_of_ble_eq_true rfl⟩ dX11_planAt_22
  · refine lv_iload_n (pc := 4) hx hb dX11_planAt_4 rfl (lv_at hl 1 rfl) ?_
    refine lv_aload_n (pc := 5) hx hb dX11_planAt_5 rfl (lv_at hl 0 rfl) ?_
    refine r_get X hW 0 ciX11 12 rfl (by decide) m_365 rfl rfl dX11_planAt_6 ?_
    refine lv_icmp_lt (tgt := 16) (pc := 9) hx hb dX11_planAt_9 rfl (fun c2 => absurd c2 c1) (fun c2 => ?_)
    refine lv_null (pc := 12) hx hb dX11_planAt_12 ?_
    refine lv_goto (tgt := 22) (pc := 13) hx hb dX11_planAt_13 rfl ?_
    exact e_q X hQ hr (Or.inl ⟨_, rfl⟩) hW (u := [(h0, .inr (11, [.ref a0, .ref a1, .ref a2, .ref a3, .ref a4, .ref a5, .ref a6, .ref a7, .ref a8, .ref a9, .ref a10, .int 0, .int 0, .int 0]))]) none rfl [0] rfl rfl (⟨rfl, rfl⟩) ⟨Nat.le_of_ble_eq_true rfl, Nat.le_of_ble_eq_true rfl⟩ dX11_planAt_22

set_option maxHeartbeats 4000000 in
set_option maxRecDepth 100000 in
theorem C_X11_told (l : Launch) (g : GG) (h0 a0 a1 a2 a3 a4 a5 a6 a7 a8 a9 a10 : Nat) (p0 : Int32) (p1 : Int32) : MetI l g yX11_told cX11_told 5 (some .int) 1 0 0 [.ref h0, .int p0, .int p1] [(h0, .inr (11, [.ref a0, .ref a1, .ref a2, .ref a3, .ref a4, .ref a5, .ref a6, .ref a7, .ref a8, .ref a9, .ref a10, .int 0, .int 0, .int 0]))] (fun r u => r = (-1) ∧ u = [(h0, .inr (11, [.ref a0, .ref a1, .ref a2, .ref a3, .ref a4, .ref a5, .ref a6, .ref a7, .ref a8, .ref a9, .ref a10, .int 0, .int 0, .int 0]))]) := by
  refine MetI.of (own := RX11) rfl (by decide) (Nat.le_of_ble_eq_true rfl) ?_
  intro p e s m below meth c A ls args Q hQ X hr hin hW hl
  have hx := X.1
  have hb := X.2.1
  have hl : lv_has ls 5 [(0, .ref h0), (1, .int p0), (2, .int p1)] := hl
  refine lv_aload_n (pc := 0) hx hb dX11_told_0 rfl (lv_at hl 0 rfl) ?_
  refine lv_iload_n (pc := 1) hx hb dX11_told_1 rfl (lv_at hl 1 rfl) ?_
  refine c_Vq (pc := 2) (As := [.int p0]) (rest := []) (wr := []) X hW 0 ciX11 rfl (C_X11_valleyAt l g h0 a0 a1 a2 a3 a4 a5 a6 a7 a8 a9 a10 p0) vX11_101 [0] [] rfl rfl rfl rfl rfl rfl hl.1 rfl (Nat.le_of_ble_eq_true rfl) ⟨Nat.le_of_ble_eq_true rfl, Nat.le_of_ble_eq_true rfl⟩ ⟨Nat.le_of_ble_eq_true rfl, Nat.le_of_ble_eq_true rfl⟩ dX11_told_2 (fun r1 u9 H locs hq hW => ?_)
  obtain ⟨rfl, rfl⟩ := hq
  have hW : WD g A s _ _ [(h0, .inr (11, [.ref a0, .ref a1, .ref a2, .ref a3, .ref a4, .ref a5, .ref a6, .ref a7, .ref a8, .ref a9, .ref a10, .int 0, .int 0, .int 0]))] := hW
  refine lv_astore_nN (lv' := [(3, .null), (0, .ref h0), (1, .int p0), (2, .int p1)]) (pc := 5) hx hb dX11_told_5 rfl hl (by decide) rfl (fun ls hl => ?_)
  refine lv_aload_nN (pc := 6) hx hb dX11_told_6 rfl (lv_at hl 0 rfl) ?_
  refine lv_ifnullN (tgt := 14) (pc := 7) hx hb dX11_told_7 rfl ?_
  refine lv_iconst (v := (-1)) (pc := 14) hx hb dX11_told_14 (by decide) ?_
  exact e_i X hQ hr hW (u := [(h0, .inr (11, [.ref a0, .ref a1, .ref a2, .ref a3, .ref a4, .ref a5, .ref a6, .ref a7, .ref a8, .ref a9, .ref a10, .int 0, .int 0, .int 0]))]) [0] rfl rfl (⟨rfl, rfl⟩) ⟨Nat.le_of_ble_eq_true rfl, Nat.le_of_ble_eq_true rfl⟩ dX11_told_15

set_option maxHeartbeats 4000000 in
set_option maxRecDepth 100000 in
theorem C_X11_down (l : Launch) (g : GG) (h0 a0 a1 a2 a3 a4 a5 a6 a7 a8 a9 a10 : Nat) (p0 : Int32) (p1 : Int32) (p2 : Int32) : MetI l g yX11_down cX11_down 5 (some .boolean) 1 0 0 [.ref h0, .int p0, .int p1, .int p2] [(h0, .inr (11, [.ref a0, .ref a1, .ref a2, .ref a3, .ref a4, .ref a5, .ref a6, .ref a7, .ref a8, .ref a9, .ref a10, .int 0, .int 0, .int 0]))] (fun r u => r = 0 ∧ u = [(h0, .inr (11, [.ref a0, .ref a1, .ref a2, .ref a3, .ref a4, .ref a5, .ref a6, .ref a7, .ref a8, .ref a9, .ref a10, .int 0, .int 0, .int 0]))]) := by
  refine MetI.of (own := RX11) rfl (by decide) (Nat.le_of_ble_eq_true rfl) ?_
  intro p e s m below meth c A ls args Q hQ X hr hin hW hl
  have hx := X.1
  have hb := X.2.1
  have hl : lv_has ls 5 [(0, .ref h0), (1, .int p0), (2, .int p1), (3, .int p2)] := hl
  refine lv_aload_n (pc := 0) hx hb dX11_down_0 rfl (lv_at hl 0 rfl) ?_
  refine lv_iload_n (pc := 1) hx hb dX11_down_1 rfl (lv_at hl 1 rfl) ?_
  refine c_Vq (pc := 2) (As := [.int p0]) (rest := []) (wr := []) X hW 0 ciX11 rfl (C_X11_valleyAt l g h0 a0 a1 a2 a3 a4 a5 a6 a7 a8 a9 a10 p0) vX11_101 [0] [] rfl rfl rfl rfl rfl rfl hl.1 rfl (Nat.le_of_ble_eq_true rfl) ⟨Nat.le_of_ble_eq_true rfl, Nat.le_of_ble_eq_true rfl⟩ ⟨Nat.le_of_ble_eq_true rfl, Nat.le_of_ble_eq_true rfl⟩ dX11_down_2 (fun r1 u9 H locs hq hW => ?_)
  obtain ⟨rfl, rfl⟩ := hq
  have hW : WD g A s _ _ [(h0, .inr (11, [.ref a0, .ref a1, .ref a2, .ref a3, .ref a4, .ref a5, .ref a6, .ref a7, .ref a8, .ref a9, .ref a10, .int 0, .int 0, .int 0]))] := hW
  refine lv_astoreN (lv' := [(4, .null), (0, .ref h0), (1, .int p0), (2, .int p1), (3, .int p2)]) (pc := 5) hx hb dX11_down_5 hl (by decide) rfl (fun ls hl => ?_)
  refine lv_aloadN (pc := 7) hx hb dX11_down_7 (lv_at hl 0 rfl) ?_
  refine lv_ifnullN (tgt := 33) (pc := 9) hx hb dX11_down_9 rfl ?_
  refine lv_iconst (v := 0) (pc := 33) hx hb dX11_down_33 (by decide) ?_
  exact e_z X hQ hr hW (u := [(h0, .inr (11, [.ref a0, .ref a1, .ref a2, .ref a3, .ref a4, .ref a5, .ref a6, .ref a7, .ref a8, .ref a9, .ref a10, .int 0, .int 0, .int 0]))]) rfl [0] rfl rfl (⟨rfl, rfl⟩) ⟨Nat.le_of_ble_eq_true rfl, Nat.le_of_ble_eq_true rfl⟩ dX11_down_34

set_option maxHeartbeats 4000000 in
set_option maxRecDepth 100000 in
theorem C_X11_may (l : Launch) (g : GG) (h0 a0 a1 a2 a3 a4 a5 a6 a7 a8 a9 a10 : Nat) (p0 : Int32) (p1 : Int32) (p2 : Int32) (p3 : Int32) : MetI l g yX11_may cX11_may 6 (some .int) 1 0 0 [.ref h0, .int p0, .int p1, .int p2, .int p3] [(h0, .inr (11, [.ref a0, .ref a1, .ref a2, .ref a3, .ref a4, .ref a5, .ref a6, .ref a7, .ref a8, .ref a9, .ref a10, .int 0, .int 0, .int 0]))] (fun r u => r = (-1) ∧ u = [(h0, .inr (11, [.ref a0, .ref a1, .ref a2, .ref a3, .ref a4, .ref a5, .ref a6, .ref a7, .ref a8, .ref a9, .ref a10, .int 0, .int 0, .int 0]))]) := by
  refine MetI.of (own := RX11) rfl (by decide) (Nat.le_of_ble_eq_true rfl) ?_
  intro p e s m below meth c A ls args Q hQ X hr hin hW hl
  have hx := X.1
  have hb := X.2.1
  have hl : lv_has ls 6 [(0, .ref h0), (1, .int p0), (2, .int p1), (3, .int p2), (4, .int p3)] := hl
  refine lv_aload_n (pc := 0) hx hb dX11_may_0 rfl (lv_at hl 0 rfl) ?_
  refine lv_iload_n (pc := 1) hx hb dX11_may_1 rfl (lv_at hl 1 rfl) ?_
  refine c_Vq (pc := 2) (As := [.int p0]) (rest := []) (wr := []) X hW 0 ciX11 rfl (C_X11_valleyAt l g h0 a0 a1 a2 a3 a4 a5 a6 a7 a8 a9 a10 p0) vX11_101 [0] [] rfl rfl rfl rfl rfl rfl hl.1 rfl (Nat.le_of_ble_eq_true rfl) ⟨Nat.le_of_ble_eq_true rfl, Nat.le_of_ble_eq_true rfl⟩ ⟨Nat.le_of_ble_eq_true rfl, Nat.le_of_ble_eq_true rfl⟩ dX11_may_2 (fun r1 u9 H locs hq hW => ?_)
  obtain ⟨rfl, rfl⟩ := hq
  have hW : WD g A s _ _ [(h0, .inr (11, [.ref a0, .ref a1, .ref a2, .ref a3, .ref a4, .ref a5, .ref a6, .ref a7, .ref a8, .ref a9, .ref a10, .int 0, .int 0, .int 0]))] := hW
  refine lv_astoreN (lv' := [(5, .null), (0, .ref h0), (1, .int p0), (2, .int p1), (3, .int p2), (4, .int p3)]) (pc := 5) hx hb dX11_may_5 hl (by decide) rfl (fun ls hl => ?_)
  refine lv_aloadN (pc := 7) hx hb dX11_may_7 (lv_at hl 0 rfl) ?_
  refine lv_ifnullN (tgt := 30) (pc := 9) hx hb dX11_may_9 rfl ?_
  refine lv_iconst (v := (-1)) (pc := 30) hx hb dX11_may_30 (by decide) ?_
  exact e_i X hQ hr hW (u := [(h0, .inr (11, [.ref a0, .ref a1, .ref a2, .ref a3, .ref a4, .ref a5, .ref a6, .ref a7, .ref a8, .ref a9, .ref a10, .int 0, .int 0, .int 0]))]) [0] rfl rfl (⟨rfl, rfl⟩) ⟨Nat.le_of_ble_eq_true rfl, Nat.le_of_ble_eq_true rfl⟩ dX11_may_31

set_option maxHeartbeats 4000000 in
set_option maxRecDepth 100000 in
theorem C_X11_plan (l : Launch) (g : GG) (h0 a0 a1 a2 a3 a4 a5 a6 a7 a8 a9 a10 : Nat) (p0 : Int32) : MetI l g yX11_plan cX11_plan 3 (some .int) 1 0 0 [.ref h0, .int p0] [(h0, .inr (11, [.ref a0, .ref a1, .ref a2, .ref a3, .ref a4, .ref a5, .ref a6, .ref a7, .ref a8, .ref a9, .ref a10, .int 0, .int 0, .int 0]))] (fun r u => r = (-1) ∧ u = [(h0, .inr (11, [.ref a0, .ref a1, .ref a2, .ref a3, .ref a4, .ref a5, .ref a6, .ref a7, .ref a8, .ref a9, .ref a10, .int 0, .int 0, .int 0]))]) := by
  refine MetI.of (own := RX11) rfl (by decide) (Nat.le_of_ble_eq_true rfl) ?_
  intro p e s m below meth c A ls args Q hQ X hr hin hW hl
  have hx := X.1
  have hb := X.2.1
  have hl : lv_has ls 3 [(0, .ref h0), (1, .int p0)] := hl
  refine lv_aload_n (pc := 0) hx hb dX11_plan_0 rfl (lv_at hl 0 rfl) ?_
  refine lv_iload_n (pc := 1) hx hb dX11_plan_1 rfl (lv_at hl 1 rfl) ?_
  refine c_Vq (pc := 2) (As := [.int p0]) (rest := []) (wr := []) X hW 0 ciX11 rfl (C_X11_valleyAt l g h0 a0 a1 a2 a3 a4 a5 a6 a7 a8 a9 a10 p0) vX11_101 [0] [] rfl rfl rfl rfl rfl rfl hl.1 rfl (Nat.le_of_ble_eq_true rfl) ⟨Nat.le_of_ble_eq_true rfl, Nat.le_of_ble_eq_true rfl⟩ ⟨Nat.le_of_ble_eq_true rfl, Nat.le_of_ble_eq_true rfl⟩ dX11_plan_2 (fun r1 u9 H locs hq hW => ?_)
  obtain ⟨rfl, rfl⟩ := hq
  have hW : WD g A s _ _ [(h0, .inr (11, [.ref a0, .ref a1, .ref a2, .ref a3, .ref a4, .ref a5, .ref a6, .ref a7, .ref a8, .ref a9, .ref a10, .int 0, .int 0, .int 0]))] := hW
  refine lv_astore_nN (lv' := [(2, .null), (0, .ref h0), (1, .int p0)]) (pc := 5) hx hb dX11_plan_5 rfl hl (by decide) rfl (fun ls hl => ?_)
  refine lv_aload_nN (pc := 6) hx hb dX11_plan_6 rfl (lv_at hl 0 rfl) ?_
  refine lv_ifnullN (tgt := 19) (pc := 7) hx hb dX11_plan_7 rfl ?_
  refine lv_iconst (v := (-1)) (pc := 19) hx hb dX11_plan_19 (by decide) ?_
  exact e_i X hQ hr hW (u := [(h0, .inr (11, [.ref a0, .ref a1, .ref a2, .ref a3, .ref a4, .ref a5, .ref a6, .ref a7, .ref a8, .ref a9, .ref a10, .int 0, .int 0, .int 0]))]) [0] rfl rfl (⟨rfl, rfl⟩) ⟨Nat.le_of_ble_eq_true rfl, Nat.le_of_ble_eq_true rfl⟩ dX11_plan_20

set_option maxHeartbeats 4000000 in
set_option maxRecDepth 100000 in
theorem C_X11_call (l : Launch) (g : GG) (h0 a0 a1 a2 a3 a4 a5 a6 a7 a8 a9 a10 : Nat) (p0 : Int32) (p1 : Int32) (p2 : Int32) (p3 : Int32) (p4 : Int32) : MetI l g yX11_call cX11_call 8 (some .int) 1 0 0 [.ref h0, .int p0, .int p1, .int p2, .int p3, .int p4] [(h0, .inr (11, [.ref a0, .ref a1, .ref a2, .ref a3, .ref a4, .ref a5, .ref a6, .ref a7, .ref a8, .ref a9, .ref a10, .int 0, .int 0, .int 0]))] (fun r u => r = (-1) ∧ u = [(h0, .inr (11, [.ref a0, .ref a1, .ref a2, .ref a3, .ref a4, .ref a5, .ref a6, .ref a7, .ref a8, .ref a9, .ref a10, .int 0, .int 0, .int 0]))]) := by
  refine MetI.of (own := RX11) rfl (by decide) (Nat.le_of_ble_eq_true rfl) ?_
  intro p e s m below meth c A ls args Q hQ X hr hin hW hl
  have hx := X.1
  have hb := X.2.1
  have hl : lv_has ls 8 [(0, .ref h0), (1, .int p0), (2, .int p1), (3, .int p2), (4, .int p3), (5, .int p4)] := hl
  refine lv_aload_n (pc := 0) hx hb dX11_call_0 rfl (lv_at hl 0 rfl) ?_
  refine lv_iload_n (pc := 1) hx hb dX11_call_1 rfl (lv_at hl 1 rfl) ?_
  refine c_Vq (pc := 2) (As := [.int p0]) (rest := []) (wr := []) X hW 0 ciX11 rfl (C_X11_planAt l g h0 a0 a1 a2 a3 a4 a5 a6 a7 a8 a9 a10 p0) vX11_157 [0] [] rfl rfl rfl rfl rfl rfl hl.1 rfl (Nat.le_of_ble_eq_true rfl) ⟨Nat.le_of_ble_eq_true rfl, Nat.le_of_ble_eq_true rfl⟩ ⟨Nat.le_of_ble_eq_true rfl, Nat.le_of_ble_eq_true rfl⟩ dX11_call_2 (fun r1 u9 H locs hq hW => ?_)
  obtain ⟨rfl, rfl⟩ := hq
  have hW : WD g A s _ _ [(h0, .inr (11, [.ref a0, .ref a1, .ref a2, .ref a3, .ref a4, .ref a5, .ref a6, .ref a7, .ref a8, .ref a9, .ref a10, .int 0, .int 0, .int 0]))] := hW
  refine lv_astoreN (lv' := [(6, .null), (0, .ref h0), (1, .int p0), (2, .int p1), (3, .int p2), (4, .int p3), (5, .int p4)]) (pc := 5) hx hb dX11_call_5 hl (by decide) rfl (fun ls hl => ?_)
  refine lv_aloadN (pc := 7) hx hb dX11_call_7 (lv_at hl 0 rfl) ?_
  refine lv_ifnullN (tgt := 36) (pc := 9) hx hb dX11_call_9 rfl ?_
  refine lv_iconst (v := (-1)) (pc := 36) hx hb dX11_call_36 (by decide) ?_
  exact e_i X hQ hr hW (u := [(h0, .inr (11, [.ref a0, .ref a1, .ref a2, .ref a3, .ref a4, .ref a5, .ref a6, .ref a7, .ref a8, .ref a9, .ref a10, .int 0, .int 0, .int 0]))]) [0] rfl rfl (⟨rfl, rfl⟩) ⟨Nat.le_of_ble_eq_true rfl, Nat.le_of_ble_eq_true rfl⟩ dX11_call_37

set_option maxHeartbeats 4000000 in
set_option maxRecDepth 100000 in
theorem C_X11_lawful (l : Launch) (g : GG) (h0 a0 a1 a2 a3 a4 a5 a6 a7 a8 a9 a10 : Nat) (p0 : Int32) (p1 : Int32) : MetI l g yX11_lawful cX11_lawful 4 (some .int) 1 0 0 [.ref h0, .int p0, .int p1] [(h0, .inr (11, [.ref a0, .ref a1, .ref a2, .ref a3, .ref a4, .ref a5, .ref a6, .ref a7, .ref a8, .ref a9, .ref a10, .int 0, .int 0, .int 0]))] (fun r u => r = (-1) ∧ u = [(h0, .inr (11, [.ref a0, .ref a1, .ref a2, .ref a3, .ref a4, .ref a5, .ref a6, .ref a7, .ref a8, .ref a9, .ref a10, .int 0, .int 0, .int 0]))]) := by
  refine MetI.of (own := RX11) rfl (by decide) (Nat.le_of_ble_eq_true rfl) ?_
  intro p e s m below meth c A ls args Q hQ X hr hin hW hl
  have hx := X.1
  have hb := X.2.1
  have hl : lv_has ls 4 [(0, .ref h0), (1, .int p0), (2, .int p1)] := hl
  refine lv_aload_n (pc := 0) hx hb dX11_lawful_0 rfl (lv_at hl 0 rfl) ?_
  refine lv_iload_n (pc := 1) hx hb dX11_lawful_1 rfl (lv_at hl 1 rfl) ?_
  refine c_Vq (pc := 2) (As := [.int p0]) (rest := []) (wr := []) X hW 0 ciX11 rfl (C_X11_planAt l g h0 a0 a1 a2 a3 a4 a5 a6 a7 a8 a9 a10 p0) vX11_157 [0] [] rfl rfl rfl rfl rfl rfl hl.1 rfl (Nat.le_of_ble_eq_true rfl) ⟨Nat.le_of_ble_eq_true rfl, Nat.le_of_ble_eq_true rfl⟩ ⟨Nat.le_of_ble_eq_true rfl, Nat.le_of_ble_eq_true rfl⟩ dX11_lawful_2 (fun r1 u9 H locs hq hW => ?_)
  obtain ⟨rfl, rfl⟩ := hq
  have hW : WD g A s _ _ [(h0, .inr (11, [.ref a0, .ref a1, .ref a2, .ref a3, .ref a4, .ref a5, .ref a6, .ref a7, .ref a8, .ref a9, .ref a10, .int 0, .int 0, .int 0]))] := hW
  refine lv_astore_nN (lv' := [(3, .null), (0, .ref h0), (1, .int p0), (2, .int p1)]) (pc := 5) hx hb dX11_lawful_5 rfl hl (by decide) rfl (fun ls hl => ?_)
  refine lv_aload_nN (pc := 6) hx hb dX11_lawful_6 rfl (lv_at hl 0 rfl) ?_
  refine lv_ifnullN (tgt := 22) (pc := 7) hx hb dX11_lawful_7 rfl ?_
  refine lv_iconst (v := (-1)) (pc := 22) hx hb dX11_lawful_22 (by decide) ?_
  exact e_i X hQ hr hW (u := [(h0, .inr (11, [.ref a0, .ref a1, .ref a2, .ref a3, .ref a4, .ref a5, .ref a6, .ref a7, .ref a8, .ref a9, .ref a10, .int 0, .int 0, .int 0]))]) [0] rfl rfl (⟨rfl, rfl⟩) ⟨Nat.le_of_ble_eq_true rfl, Nat.le_of_ble_eq_true rfl⟩ dX11_lawful_23

set_option maxHeartbeats 4000000 in
set_option maxRecDepth 100000 in
theorem C_X11_unlawful (l : Launch) (g : GG) (h0 a0 a1 a2 a3 a4 a5 a6 a7 a8 a9 a10 : Nat) (p0 : Int32) : MetI l g yX11_unlawful cX11_unlawful 4 (some .int) 1 0 0 [.ref h0, .int p0] [(h0, .inr (11, [.ref a0, .ref a1, .ref a2, .ref a3, .ref a4, .ref a5, .ref a6, .ref a7, .ref a8, .ref a9, .ref a10, .int 0, .int 0, .int 0]))] (fun r u => r = (-1) ∧ u = [(h0, .inr (11, [.ref a0, .ref a1, .ref a2, .ref a3, .ref a4, .ref a5, .ref a6, .ref a7, .ref a8, .ref a9, .ref a10, .int 0, .int 0, .int 0]))]) := by
  refine MetI.of (own := RX11) rfl (by decide) (Nat.le_of_ble_eq_true rfl) ?_
  intro p e s m below meth c A ls args Q hQ X hr hin hW hl
  have hx := X.1
  have hb := X.2.1
  have hl : lv_has ls 4 [(0, .ref h0), (1, .int p0)] := hl
  refine lv_aload_n (pc := 0) hx hb dX11_unlawful_0 rfl (lv_at hl 0 rfl) ?_
  refine lv_iload_n (pc := 1) hx hb dX11_unlawful_1 rfl (lv_at hl 1 rfl) ?_
  refine c_Vq (pc := 2) (As := [.int p0]) (rest := []) (wr := []) X hW 0 ciX11 rfl (C_X11_planAt l g h0 a0 a1 a2 a3 a4 a5 a6 a7 a8 a9 a10 p0) vX11_157 [0] [] rfl rfl rfl rfl rfl rfl hl.1 rfl (Nat.le_of_ble_eq_true rfl) ⟨Nat.le_of_ble_eq_true rfl, Nat.le_of_ble_eq_true rfl⟩ ⟨Nat.le_of_ble_eq_true rfl, Nat.le_of_ble_eq_true rfl⟩ dX11_unlawful_2 (fun r1 u9 H locs hq hW => ?_)
  obtain ⟨rfl, rfl⟩ := hq
  have hW : WD g A s _ _ [(h0, .inr (11, [.ref a0, .ref a1, .ref a2, .ref a3, .ref a4, .ref a5, .ref a6, .ref a7, .ref a8, .ref a9, .ref a10, .int 0, .int 0, .int 0]))] := hW
  refine lv_astore_nN (lv' := [(2, .null), (0, .ref h0), (1, .int p0)]) (pc := 5) hx hb dX11_unlawful_5 rfl hl (by decide) rfl (fun ls hl => ?_)
  refine lv_aload_nN (pc := 6) hx hb dX11_unlawful_6 rfl (lv_at hl 0 rfl) ?_
  refine lv_ifnonnullN (pc := 7) hx hb dX11_unlawful_7 ?_
  refine lv_iconst (v := (-1)) (pc := 10) hx hb dX11_unlawful_10 (by decide) ?_
  exact e_i X hQ hr hW (u := [(h0, .inr (11, [.ref a0, .ref a1, .ref a2, .ref a3, .ref a4, .ref a5, .ref a6, .ref a7, .ref a8, .ref a9, .ref a10, .int 0, .int 0, .int 0]))]) [0] rfl rfl (⟨rfl, rfl⟩) ⟨Nat.le_of_ble_eq_true rfl, Nat.le_of_ble_eq_true rfl⟩ dX11_unlawful_11

set_option maxHeartbeats 4000000 in
set_option maxRecDepth 100000 in
theorem C_X11_known (l : Launch) (g : GG) (h0 a0 a1 a2 a3 a4 a5 a6 a7 a8 a9 a10 : Nat) (p0 : Int32) (p1 : Int32) (p2 : Int32) : MetI l g yX11_known cX11_known 5 (some .int) 1 0 0 [.ref h0, .int p0, .int p1, .int p2] [(h0, .inr (11, [.ref a0, .ref a1, .ref a2, .ref a3, .ref a4, .ref a5, .ref a6, .ref a7, .ref a8, .ref a9, .ref a10, .int 0, .int 0, .int 0]))] (fun r u => r = (-1) ∧ u = [(h0, .inr (11, [.ref a0, .ref a1, .ref a2, .ref a3, .ref a4, .ref a5, .ref a6, .ref a7, .ref a8, .ref a9, .ref a10, .int 0, .int 0, .int 0]))]) := by
  refine MetI.of (own := RX11) rfl (by decide) (Nat.le_of_ble_eq_true rfl) ?_
  intro p e s m below meth c A ls args Q hQ X hr hin hW hl
  have hx := X.1
  have hb := X.2.1
  have hl : lv_has ls 5 [(0, .ref h0), (1, .int p0), (2, .int p1), (3, .int p2)] := hl
  refine lv_aload_n (pc := 0) hx hb dX11_known_0 rfl (lv_at hl 0 rfl) ?_
  refine lv_iload_n (pc := 1) hx hb dX11_known_1 rfl (lv_at hl 1 rfl) ?_
  refine c_Vq (pc := 2) (As := [.int p0]) (rest := []) (wr := []) X hW 0 ciX11 rfl (C_X11_planAt l g h0 a0 a1 a2 a3 a4 a5 a6 a7 a8 a9 a10 p0) vX11_157 [0] [] rfl rfl rfl rfl rfl rfl hl.1 rfl (Nat.le_of_ble_eq_true rfl) ⟨Nat.le_of_ble_eq_true rfl, Nat.le_of_ble_eq_true rfl⟩ ⟨Nat.le_of_ble_eq_true rfl, Nat.le_of_ble_eq_true rfl⟩ dX11_known_2 (fun r1 u9 H locs hq hW => ?_)
  obtain ⟨rfl, rfl⟩ := hq
  have hW : WD g A s _ _ [(h0, .inr (11, [.ref a0, .ref a1, .ref a2, .ref a3, .ref a4, .ref a5, .ref a6, .ref a7, .ref a8, .ref a9, .ref a10, .int 0, .int 0, .int 0]))] := hW
  refine lv_astoreN (lv' := [(4, .null), (0, .ref h0), (1, .int p0), (2, .int p1), (3, .int p2)]) (pc := 5) hx hb dX11_known_5 hl (by decide) rfl (fun ls hl => ?_)
  refine lv_aloadN (pc := 7) hx hb dX11_known_7 (lv_at hl 0 rfl) ?_
  refine lv_ifnullN (tgt := 31) (pc := 9) hx hb dX11_known_9 rfl ?_
  refine lv_iconst (v := (-1)) (pc := 31) hx hb dX11_known_31 (by decide) ?_
  exact e_i X hQ hr hW (u := [(h0, .inr (11, [.ref a0, .ref a1, .ref a2, .ref a3, .ref a4, .ref a5, .ref a6, .ref a7, .ref a8, .ref a9, .ref a10, .int 0, .int 0, .int 0]))]) [0] rfl rfl (⟨rfl, rfl⟩) ⟨Nat.le_of_ble_eq_true rfl, Nat.le_of_ble_eq_true rfl⟩ dX11_known_32

set_option maxHeartbeats 4000000 in
set_option maxRecDepth 100000 in
theorem C_X11_together (l : Launch) (g : GG) (h0 a0 a1 a2 a3 a4 a5 a6 a7 a8 a9 a10 : Nat) (p0 : Int32) (p1 : Int32) (p2 : Int32) : MetI l g yX11_together cX11_together 7 (some .int) 1 0 0 [.ref h0, .int p0, .int p1, .int p2] [(h0, .inr (11, [.ref a0, .ref a1, .ref a2, .ref a3, .ref a4, .ref a5, .ref a6, .ref a7, .ref a8, .ref a9, .ref a10, .int 0, .int 0, .int 0]))] (fun r u => r = (-1) ∧ u = [(h0, .inr (11, [.ref a0, .ref a1, .ref a2, .ref a3, .ref a4, .ref a5, .ref a6, .ref a7, .ref a8, .ref a9, .ref a10, .int 0, .int 0, .int 0]))]) := by
  refine MetI.of (own := RX11) rfl (by decide) (Nat.le_of_ble_eq_true rfl) ?_
  intro p e s m below meth c A ls args Q hQ X hr hin hW hl
  have hx := X.1
  have hb := X.2.1
  have hl : lv_has ls 7 [(0, .ref h0), (1, .int p0), (2, .int p1), (3, .int p2)] := hl
  refine lv_aload_n (pc := 0) hx hb dX11_together_0 rfl (lv_at hl 0 rfl) ?_
  refine lv_iload_n (pc := 1) hx hb dX11_together_1 rfl (lv_at hl 1 rfl) ?_
  refine c_Vq (pc := 2) (As := [.int p0]) (rest := []) (wr := []) X hW 0 ciX11 rfl (C_X11_planAt l g h0 a0 a1 a2 a3 a4 a5 a6 a7 a8 a9 a10 p0) vX11_157 [0] [] rfl rfl rfl rfl rfl rfl hl.1 rfl (Nat.le_of_ble_eq_true rfl) ⟨Nat.le_of_ble_eq_true rfl, Nat.le_of_ble_eq_true rfl⟩ ⟨Nat.le_of_ble_eq_true rfl, Nat.le_of_ble_eq_true rfl⟩ dX11_together_2 (fun r1 u9 H locs hq hW => ?_)
  obtain ⟨rfl, rfl⟩ := hq
  have hW : WD g A s _ _ [(h0, .inr (11, [.ref a0, .ref a1, .ref a2, .ref a3, .ref a4, .ref a5, .ref a6, .ref a7, .ref a8, .ref a9, .ref a10, .int 0, .int 0, .int 0]))] := hW
  refine lv_astoreN (lv' := [(4, .null), (0, .ref h0), (1, .int p0), (2, .int p1), (3, .int p2)]) (pc := 5) hx hb dX11_together_5 hl (by decide) rfl (fun ls hl => ?_)
  refine lv_aloadN (pc := 7) hx hb dX11_together_7 (lv_at hl 0 rfl) ?_
  refine lv_ifnullN (tgt := 36) (pc := 9) hx hb dX11_together_9 rfl ?_
  refine lv_iconst (v := (-1)) (pc := 36) hx hb dX11_together_36 (by decide) ?_
  exact e_i X hQ hr hW (u := [(h0, .inr (11, [.ref a0, .ref a1, .ref a2, .ref a3, .ref a4, .ref a5, .ref a6, .ref a7, .ref a8, .ref a9, .ref a10, .int 0, .int 0, .int 0]))]) [0] rfl rfl (⟨rfl, rfl⟩) ⟨Nat.le_of_ble_eq_true rfl, Nat.le_of_ble_eq_true rfl⟩ dX11_together_37

set_option maxHeartbeats 4000000 in
set_option maxRecDepth 100000 in
theorem C_X11_when (l : Launch) (g : GG) (h0 a0 a1 a2 a3 a4 a5 a6 a7 a8 a9 a10 : Nat) (p0 : Int32) (p1 : Int32) : MetI l g yX11_when cX11_when 5 (some .int) 1 0 0 [.ref h0, .int p0, .int p1] [(h0, .inr (11, [.ref a0, .ref a1, .ref a2, .ref a3, .ref a4, .ref a5, .ref a6, .ref a7, .ref a8, .ref a9, .ref a10, .int 0, .int 0, .int 0]))] (fun r u => r = (-1) ∧ u = [(h0, .inr (11, [.ref a0, .ref a1, .ref a2, .ref a3, .ref a4, .ref a5, .ref a6, .ref a7, .ref a8, .ref a9, .ref a10, .int 0, .int 0, .int 0]))]) := by
  refine MetI.of (own := RX11) rfl (by decide) (Nat.le_of_ble_eq_true rfl) ?_
  intro p e s m below meth c A ls args Q hQ X hr hin hW hl
  have hx := X.1
  have hb := X.2.1
  have hl : lv_has ls 5 [(0, .ref h0), (1, .int p0), (2, .int p1)] := hl
  refine lv_aload_n (pc := 0) hx hb dX11_when_0 rfl (lv_at hl 0 rfl) ?_
  refine lv_iload_n (pc := 1) hx hb dX11_when_1 rfl (lv_at hl 1 rfl) ?_
  refine c_Vq (pc := 2) (As := [.int p0]) (rest := []) (wr := []) X hW 0 ciX11 rfl (C_X11_planAt l g h0 a0 a1 a2 a3 a4 a5 a6 a7 a8 a9 a10 p0) vX11_157 [0] [] rfl rfl rfl rfl rfl rfl hl.1 rfl (Nat.le_of_ble_eq_true rfl) ⟨Nat.le_of_ble_eq_true rfl, Nat.le_of_ble_eq_true rfl⟩ ⟨Nat.le_of_ble_eq_true rfl, Nat.le_of_ble_eq_true rfl⟩ dX11_when_2 (fun r1 u9 H locs hq hW => ?_)
  obtain ⟨rfl, rfl⟩ := hq
  have hW : WD g A s _ _ [(h0, .inr (11, [.ref a0, .ref a1, .ref a2, .ref a3, .ref a4, .ref a5, .ref a6, .ref a7, .ref a8, .ref a9, .ref a10, .int 0, .int 0, .int 0]))] := hW
  refine lv_astore_nN (lv' := [(3, .null), (0, .ref h0), (1, .int p0), (2, .int p1)]) (pc := 5) hx hb dX11_when_5 rfl hl (by decide) rfl (fun ls hl => ?_)
  refine lv_aload_nN (pc := 6) hx hb dX11_when_6 rfl (lv_at hl 0 rfl) ?_
  refine lv_ifnullN (tgt := 19) (pc := 7) hx hb dX11_when_7 rfl ?_
  refine lv_iconst (v := (-1)) (pc := 19) hx hb dX11_when_19 (by decide) ?_
  exact e_i X hQ hr hW (u := [(h0, .inr (11, [.ref a0, .ref a1, .ref a2, .ref a3, .ref a4, .ref a5, .ref a6, .ref a7, .ref a8, .ref a9, .ref a10, .int 0, .int 0, .int 0]))]) [0] rfl rfl (⟨rfl, rfl⟩) ⟨Nat.le_of_ble_eq_true rfl, Nat.le_of_ble_eq_true rfl⟩ dX11_when_20

set_option maxHeartbeats 4000000 in
set_option maxRecDepth 100000 in
theorem C_X11_least (l : Launch) (g : GG) (h0 a0 a1 a2 a3 a4 a5 a6 a7 a8 a9 a10 : Nat) (p0 : Int32) (p1 : Int32) (p2 : Int32) : MetI l g yX11_least cX11_least 5 (some .int) 1 0 0 [.ref h0, .int p0, .int p1, .int p2] [(h0, .inr (11, [.ref a0, .ref a1, .ref a2, .ref a3, .ref a4, .ref a5, .ref a6, .ref a7, .ref a8, .ref a9, .ref a10, .int 0, .int 0, .int 0]))] (fun r u => r = (-1) ∧ u = [(h0, .inr (11, [.ref a0, .ref a1, .ref a2, .ref a3, .ref a4, .ref a5, .ref a6, .ref a7, .ref a8, .ref a9, .ref a10, .int 0, .int 0, .int 0]))]) := by
  refine MetI.of (own := RX11) rfl (by decide) (Nat.le_of_ble_eq_true rfl) ?_
  intro p e s m below meth c A ls args Q hQ X hr hin hW hl
  have hx := X.1
  have hb := X.2.1
  have hl : lv_has ls 5 [(0, .ref h0), (1, .int p0), (2, .int p1), (3, .int p2)] := hl
  refine lv_aload_n (pc := 0) hx hb dX11_least_0 rfl (lv_at hl 0 rfl) ?_
  refine lv_iload_n (pc := 1) hx hb dX11_least_1 rfl (lv_at hl 1 rfl) ?_
  refine c_Vq (pc := 2) (As := [.int p0]) (rest := []) (wr := []) X hW 0 ciX11 rfl (C_X11_valleyAt l g h0 a0 a1 a2 a3 a4 a5 a6 a7 a8 a9 a10 p0) vX11_101 [0] [] rfl rfl rfl rfl rfl rfl hl.1 rfl (Nat.le_of_ble_eq_true rfl) ⟨Nat.le_of_ble_eq_true rfl, Nat.le_of_ble_eq_true rfl⟩ ⟨Nat.le_of_ble_eq_true rfl, Nat.le_of_ble_eq_true rfl⟩ dX11_least_2 (fun r1 u9 H locs hq hW => ?_)
  obtain ⟨rfl, rfl⟩ := hq
  have hW : WD g A s _ _ [(h0, .inr (11, [.ref a0, .ref a1, .ref a2, .ref a3, .ref a4, .ref a5, .ref a6, .ref a7, .ref a8, .ref a9, .ref a10, .int 0, .int 0, .int 0]))] := hW
  refine lv_astoreN (lv' := [(4, .null), (0, .ref h0), (1, .int p0), (2, .int p1), (3, .int p2)]) (pc := 5) hx hb dX11_least_5 hl (by decide) rfl (fun ls hl => ?_)
  refine lv_aloadN (pc := 7) hx hb dX11_least_7 (lv_at hl 0 rfl) ?_
  refine lv_ifnullN (tgt := 26) (pc := 9) hx hb dX11_least_9 rfl ?_
  refine lv_iconst (v := (-1)) (pc := 26) hx hb dX11_least_26 (by decide) ?_
  exact e_i X hQ hr hW (u := [(h0, .inr (11, [.ref a0, .ref a1, .ref a2, .ref a3, .ref a4, .ref a5, .ref a6, .ref a7, .ref a8, .ref a9, .ref a10, .int 0, .int 0, .int 0]))]) [0] rfl rfl (⟨rfl, rfl⟩) ⟨Nat.le_of_ble_eq_true rfl, Nat.le_of_ble_eq_true rfl⟩ dX11_least_27

set_option maxHeartbeats 4000000 in
set_option maxRecDepth 100000 in
theorem C_X11_found (l : Launch) (g : GG) (h0 a0 a1 a2 a3 a4 a5 a6 a7 a8 a9 a10 : Nat) (p0 : Int32) (p1 : Int32) (p2 : Int32) (p3 : Int32) (p4 : Int32) : MetI l g yX11_found cX11_found 8 (some .int) 1 0 0 [.ref h0, .int p0, .int p1, .int p2, .int p3, .int p4] [(h0, .inr (11, [.ref a0, .ref a1, .ref a2, .ref a3, .ref a4, .ref a5, .ref a6, .ref a7, .ref a8, .ref a9, .ref a10, .int 0, .int 0, .int 0]))] (fun r u => r = (-1) ∧ u = [(h0, .inr (11, [.ref a0, .ref a1, .ref a2, .ref a3, .ref a4, .ref a5, .ref a6, .ref a7, .ref a8, .ref a9, .ref a10, .int 0, .int 0, .int 0]))]) := by
  refine MetI.of (own := RX11) rfl (by decide) (Nat.le_of_ble_eq_true rfl) ?_
  intro p e s m below meth c A ls args Q hQ X hr hin hW hl
  have hx := X.1
  have hb := X.2.1
  have hl : lv_has ls 8 [(0, .ref h0), (1, .int p0), (2, .int p1), (3, .int p2), (4, .int p3), (5, .int p4)] := hl
  refine lv_aload_n (pc := 0) hx hb dX11_found_0 rfl (lv_at hl 0 rfl) ?_
  refine lv_iload_n (pc := 1) hx hb dX11_found_1 rfl (lv_at hl 1 rfl) ?_
  refine c_Vq (pc := 2) (As := [.int p0]) (rest := []) (wr := []) X hW 0 ciX11 rfl (C_X11_valleyAt l g h0 a0 a1 a2 a3 a4 a5 a6 a7 a8 a9 a10 p0) vX11_101 [0] [] rfl rfl rfl rfl rfl rfl hl.1 rfl (Nat.le_of_ble_eq_true rfl) ⟨Nat.le_of_ble_eq_true rfl, Nat.le_of_ble_eq_true rfl⟩ ⟨Nat.le_of_ble_eq_true rfl, Nat.le_of_ble_eq_true rfl⟩ dX11_found_2 (fun r1 u9 H locs hq hW => ?_)
  obtain ⟨rfl, rfl⟩ := hq
  have hW : WD g A s _ _ [(h0, .inr (11, [.ref a0, .ref a1, .ref a2, .ref a3, .ref a4, .ref a5, .ref a6, .ref a7, .ref a8, .ref a9, .ref a10, .int 0, .int 0, .int 0]))] := hW
  refine lv_astoreN (lv' := [(6, .null), (0, .ref h0), (1, .int p0), (2, .int p1), (3, .int p2), (4, .int p3), (5, .int p4)]) (pc := 5) hx hb dX11_found_5 hl (by decide) rfl (fun ls hl => ?_)
  refine lv_aloadN (pc := 7) hx hb dX11_found_7 (lv_at hl 0 rfl) ?_
  refine lv_ifnullN (tgt := 41) (pc := 9) hx hb dX11_found_9 rfl ?_
  refine lv_iconst (v := (-1)) (pc := 41) hx hb dX11_found_41 (by decide) ?_
  exact e_i X hQ hr hW (u := [(h0, .inr (11, [.ref a0, .ref a1, .ref a2, .ref a3, .ref a4, .ref a5, .ref a6, .ref a7, .ref a8, .ref a9, .ref a10, .int 0, .int 0, .int 0]))]) [0] rfl rfl (⟨rfl, rfl⟩) ⟨Nat.le_of_ble_eq_true rfl, Nat.le_of_ble_eq_true rfl⟩ dX11_found_42

set_option maxHeartbeats 4000000 in
set_option maxRecDepth 100000 in
theorem C_X11_reach (l : Launch) (g : GG) (h0 a0 a1 a2 a3 a4 a5 a6 a7 a8 a9 a10 : Nat) (p0 : Int32) (p1 : Int32) (p2 : Int32) (p3 : Int32) : MetI l g yX11_reach cX11_reach 6 (some .int) 1 0 0 [.ref h0, .int p0, .int p1, .int p2, .int p3] [(h0, .inr (11, [.ref a0, .ref a1, .ref a2, .ref a3, .ref a4, .ref a5, .ref a6, .ref a7, .ref a8, .ref a9, .ref a10, .int 0, .int 0, .int 0]))] (fun r u => r = (-1) ∧ u = [(h0, .inr (11, [.ref a0, .ref a1, .ref a2, .ref a3, .ref a4, .ref a5, .ref a6, .ref a7, .ref a8, .ref a9, .ref a10, .int 0, .int 0, .int 0]))]) := by
  refine MetI.of (own := RX11) rfl (by decide) (Nat.le_of_ble_eq_true rfl) ?_
  intro p e s m below meth c A ls args Q hQ X hr hin hW hl
  have hx := X.1
  have hb := X.2.1
  have hl : lv_has ls 6 [(0, .ref h0), (1, .int p0), (2, .int p1), (3, .int p2), (4, .int p3)] := hl
  refine lv_aload_n (pc := 0) hx hb dX11_reach_0 rfl (lv_at hl 0 rfl) ?_
  refine lv_iload_n (pc := 1) hx hb dX11_reach_1 rfl (lv_at hl 1 rfl) ?_
  refine c_Vq (pc := 2) (As := [.int p0]) (rest := []) (wr := []) X hW 0 ciX11 rfl (C_X11_valleyAt l g h0 a0 a1 a2 a3 a4 a5 a6 a7 a8 a9 a10 p0) vX11_101 [0] [] rfl rfl rfl rfl rfl rfl hl.1 rfl (Nat.le_of_ble_eq_true rfl) ⟨Nat.le_of_ble_eq_true rfl, Nat.le_of_ble_eq_true rfl⟩ ⟨Nat.le_of_ble_eq_true rfl, Nat.le_of_ble_eq_true rfl⟩ dX11_reach_2 (fun r1 u9 H locs hq hW => ?_)
  obtain ⟨rfl, rfl⟩ := hq
  have hW : WD g A s _ _ [(h0, .inr (11, [.ref a0, .ref a1, .ref a2, .ref a3, .ref a4, .ref a5, .ref a6, .ref a7, .ref a8, .ref a9, .ref a10, .int 0, .int 0, .int 0]))] := hW
  refine lv_astoreN (lv' := [(5, .null), (0, .ref h0), (1, .int p0), (2, .int p1), (3, .int p2), (4, .int p3)]) (pc := 5) hx hb dX11_reach_5 hl (by decide) rfl (fun ls hl => ?_)
  refine lv_aloadN (pc := 7) hx hb dX11_reach_7 (lv_at hl 0 rfl) ?_
  refine lv_ifnullN (tgt := 40) (pc := 9) hx hb dX11_reach_9 rfl ?_
  refine lv_iconst (v := (-1)) (pc := 40) hx hb dX11_reach_40 (by decide) ?_
  exact e_i X hQ hr hW (u := [(h0, .inr (11, [.ref a0, .ref a1, .ref a2, .ref a3, .ref a4, .ref a5, .ref a6, .ref a7, .ref a8, .ref a9, .ref a10, .int 0, .int 0, .int 0]))]) [0] rfl rfl (⟨rfl, rfl⟩) ⟨Nat.le_of_ble_eq_true rfl, Nat.le_of_ble_eq_true rfl⟩ dX11_reach_41

set_option maxHeartbeats 4000000 in
set_option maxRecDepth 100000 in
theorem C_X11_from (l : Launch) (g : GG) (h0 a0 a1 a2 a3 a4 a5 a6 a7 a8 a9 a10 : Nat) (p0 : Int32) (p1 : Int32) (p2 : Int32) : MetI l g yX11_from cX11_from 5 (some .int) 1 0 0 [.ref h0, .int p0, .int p1, .int p2] [(h0, .inr (11, [.ref a0, .ref a1, .ref a2, .ref a3, .ref a4, .ref a5, .ref a6, .ref a7, .ref a8, .ref a9, .ref a10, .int 0, .int 0, .int 0]))] (fun r u => r = (-1) ∧ u = [(h0, .inr (11, [.ref a0, .ref a1, .ref a2, .ref a3, .ref a4, .ref a5, .ref a6, .ref a7, .ref a8, .ref a9, .ref a10, .int 0, .int 0, .int 0]))]) := by
  refine MetI.of (own := RX11) rfl (by decide) (Nat.le_of_ble_eq_true rfl) ?_
  intro p e s m below meth c A ls args Q hQ X hr hin hW hl
  have hx := X.1
  have hb := X.2.1
  have hl : lv_has ls 5 [(0, .ref h0), (1, .int p0), (2, .int p1), (3, .int p2)] := hl
  refine lv_aload_n (pc := 0) hx hb dX11_from_0 rfl (lv_at hl 0 rfl) ?_
  refine lv_iload_n (pc := 1) hx hb dX11_from_1 rfl (lv_at hl 1 rfl) ?_
  refine c_Vq (pc := 2) (As := [.int p0]) (rest := []) (wr := []) X hW 0 ciX11 rfl (C_X11_planAt l g h0 a0 a1 a2 a3 a4 a5 a6 a7 a8 a9 a10 p0) vX11_157 [0] [] rfl rfl rfl rfl rfl rfl hl.1 rfl (Nat.le_of_ble_eq_true rfl) ⟨Nat.le_of_ble_eq_true rfl, Nat.le_of_ble_eq_true rfl⟩ ⟨Nat.le_of_ble_eq_true rfl, Nat.le_of_ble_eq_true rfl⟩ dX11_from_2 (fun r1 u9 H locs hq hW => ?_)
  obtain ⟨rfl, rfl⟩ := hq
  have hW : WD g A s _ _ [(h0, .inr (11, [.ref a0, .ref a1, .ref a2, .ref a3, .ref a4, .ref a5, .ref a6, .ref a7, .ref a8, .ref a9, .ref a10, .int 0, .int 0, .int 0]))] := hW
  refine lv_astoreN (lv' := [(4, .null), (0, .ref h0), (1, .int p0), (2, .int p1), (3, .int p2)]) (pc := 5) hx hb dX11_from_5 hl (by decide) rfl (fun ls hl => ?_)
  refine lv_aloadN (pc := 7) hx hb dX11_from_7 (lv_at hl 0 rfl) ?_
  refine lv_ifnullN (tgt := 32) (pc := 9) hx hb dX11_from_9 rfl ?_
  refine lv_iconst (v := (-1)) (pc := 32) hx hb dX11_from_32 (by decide) ?_
  exact e_i X hQ hr hW (u := [(h0, .inr (11, [.ref a0, .ref a1, .ref a2, .ref a3, .ref a4, .ref a5, .ref a6, .ref a7, .ref a8, .ref a9, .ref a10, .int 0, .int 0, .int 0]))]) [0] rfl rfl (⟨rfl, rfl⟩) ⟨Nat.le_of_ble_eq_true rfl, Nat.le_of_ble_eq_true rfl⟩ dX11_from_33

set_option maxHeartbeats 4000000 in
set_option maxRecDepth 100000 in
theorem C_X11_added (l : Launch) (g : GG) (h0 a0 a1 a2 a3 a4 a5 a6 a7 a8 a9 a10 : Nat) (p0 : Int32) (p1 : Int32) (p2 : Int32) : MetI l g yX11_added cX11_added 5 (some .int) 1 0 0 [.ref h0, .int p0, .int p1, .int p2] [(h0, .inr (11, [.ref a0, .ref a1, .ref a2, .ref a3, .ref a4, .ref a5, .ref a6, .ref a7, .ref a8, .ref a9, .ref a10, .int 0, .int 0, .int 0]))] (fun r u => r = (-1) ∧ u = [(h0, .inr (11, [.ref a0, .ref a1, .ref a2, .ref a3, .ref a4, .ref a5, .ref a6, .ref a7, .ref a8, .ref a9, .ref a10, .int 0, .int 0, .int 0]))]) := by
  refine MetI.of (own := RX11) rfl (by decide) (Nat.le_of_ble_eq_true rfl) ?_
  intro p e s m below meth c A ls args Q hQ X hr hin hW hl
  have hx := X.1
  have hb := X.2.1
  have hl : lv_has ls 5 [(0, .ref h0), (1, .int p0), (2, .int p1), (3, .int p2)] := hl
  refine lv_aload_n (pc := 0) hx hb dX11_added_0 rfl (lv_at hl 0 rfl) ?_
  refine lv_iload_n (pc := 1) hx hb dX11_added_1 rfl (lv_at hl 1 rfl) ?_
  refine c_Vq (pc := 2) (As := [.int p0]) (rest := []) (wr := []) X hW 0 ciX11 rfl (C_X11_valleyAt l g h0 a0 a1 a2 a3 a4 a5 a6 a7 a8 a9 a10 p0) vX11_101 [0] [] rfl rfl rfl rfl rfl rfl hl.1 rfl (Nat.le_of_ble_eq_true rfl) ⟨Nat.le_of_ble_eq_true rfl, Nat.le_of_ble_eq_true rfl⟩ ⟨Nat.le_of_ble_eq_true rfl, Nat.le_of_ble_eq_true rfl⟩ dX11_added_2 (fun r1 u9 H locs hq hW => ?_)
  obtain ⟨rfl, rfl⟩ := hq
  have hW : WD g A s _ _ [(h0, .inr (11, [.ref a0, .ref a1, .ref a2, .ref a3, .ref a4, .ref a5, .ref a6, .ref a7, .ref a8, .ref a9, .ref a10, .int 0, .int 0, .int 0]))] := hW
  refine lv_astoreN (lv' := [(4, .null), (0, .ref h0), (1, .int p0), (2, .int p1), (3, .int p2)]) (pc := 5) hx hb dX11_added_5 hl (by decide) rfl (fun ls hl => ?_)
  refine lv_aloadN (pc := 7) hx hb dX11_added_7 (lv_at hl 0 rfl) ?_
  refine lv_ifnullN (tgt := 41) (pc := 9) hx hb dX11_added_9 rfl ?_
  refine lv_iconst (v := (-1)) (pc := 41) hx hb dX11_added_41 (by decide) ?_
  exact e_i X hQ hr hW (u := [(h0, .inr (11, [.ref a0, .ref a1, .ref a2, .ref a3, .ref a4, .ref a5, .ref a6, .ref a7, .ref a8, .ref a9, .ref a10, .int 0, .int 0, .int 0]))]) [0] rfl rfl (⟨rfl, rfl⟩) ⟨Nat.le_of_ble_eq_true rfl, Nat.le_of_ble_eq_true rfl⟩ dX11_added_42

set_option maxHeartbeats 4000000 in
set_option maxRecDepth 100000 in
theorem C_X11_shut (l : Launch) (g : GG) (h0 a0 a1 a2 a3 a4 a5 a6 a7 a8 a9 a10 : Nat) (p0 : Int32) (p1 : Int32) (p2 : Int32) (p3 : Int32) : MetI l g yX11_shut cX11_shut 6 (some .int) 1 0 0 [.ref h0, .int p0, .int p1, .int p2, .int p3] [(h0, .inr (11, [.ref a0, .ref a1, .ref a2, .ref a3, .ref a4, .ref a5, .ref a6, .ref a7, .ref a8, .ref a9, .ref a10, .int 0, .int 0, .int 0]))] (fun r u => r = (-1) ∧ u = [(h0, .inr (11, [.ref a0, .ref a1, .ref a2, .ref a3, .ref a4, .ref a5, .ref a6, .ref a7, .ref a8, .ref a9, .ref a10, .int 0, .int 0, .int 0]))]) := by
  refine MetI.of (own := RX11) rfl (by decide) (Nat.le_of_ble_eq_true rfl) ?_
  intro p e s m below meth c A ls args Q hQ X hr hin hW hl
  have hx := X.1
  have hb := X.2.1
  have hl : lv_has ls 6 [(0, .ref h0), (1, .int p0), (2, .int p1), (3, .int p2), (4, .int p3)] := hl
  refine lv_aload_n (pc := 0) hx hb dX11_shut_0 rfl (lv_at hl 0 rfl) ?_
  refine lv_iload_n (pc := 1) hx hb dX11_shut_1 rfl (lv_at hl 1 rfl) ?_
  refine c_Vq (pc := 2) (As := [.int p0]) (rest := []) (wr := []) X hW 0 ciX11 rfl (C_X11_valleyAt l g h0 a0 a1 a2 a3 a4 a5 a6 a7 a8 a9 a10 p0) vX11_101 [0] [] rfl rfl rfl rfl rfl rfl hl.1 rfl (Nat.le_of_ble_eq_true rfl) ⟨Nat.le_of_ble_eq_true rfl, Nat.le_of_ble_eq_true rfl⟩ ⟨Nat.le_of_ble_eq_true rfl, Nat.le_of_ble_eq_true rfl⟩ dX11_shut_2 (fun r1 u9 H locs hq hW => ?_)
  obtain ⟨rfl, rfl⟩ := hq
  have hW : WD g A s _ _ [(h0, .inr (11, [.ref a0, .ref a1, .ref a2, .ref a3, .ref a4, .ref a5, .ref a6, .ref a7, .ref a8, .ref a9, .ref a10, .int 0, .int 0, .int 0]))] := hW
  refine lv_astoreN (lv' := [(5, .null), (0, .ref h0), (1, .int p0), (2, .int p1), (3, .int p2), (4, .int p3)]) (pc := 5) hx hb dX11_shut_5 hl (by decide) rfl (fun ls hl => ?_)
  refine lv_aloadN (pc := 7) hx hb dX11_shut_7 (lv_at hl 0 rfl) ?_
  refine lv_ifnullN (tgt := 36) (pc := 9) hx hb dX11_shut_9 rfl ?_
  refine lv_iconst (v := (-1)) (pc := 36) hx hb dX11_shut_36 (by decide) ?_
  exact e_i X hQ hr hW (u := [(h0, .inr (11, [.ref a0, .ref a1, .ref a2, .ref a3, .ref a4, .ref a5, .ref a6, .ref a7, .ref a8, .ref a9, .ref a10, .int 0, .int 0, .int 0]))]) [0] rfl rfl (⟨rfl, rfl⟩) ⟨Nat.le_of_ble_eq_true rfl, Nat.le_of_ble_eq_true rfl⟩ dX11_shut_37

set_option maxHeartbeats 4000000 in
set_option maxRecDepth 100000 in
theorem C_X11_fewest (l : Launch) (g : GG) (h0 a0 a1 a2 a3 a4 a5 a6 a7 a8 a9 a10 : Nat) (p0 : Int32) : MetI l g yX11_fewest cX11_fewest 3 (some .int) 1 0 0 [.ref h0, .int p0] [(h0, .inr (11, [.ref a0, .ref a1, .ref a2, .ref a3, .ref a4, .ref a5, .ref a6, .ref a7, .ref a8, .ref a9, .ref a10, .int 0, .int 0, .int 0]))] (fun r u => r = (-1) ∧ u = [(h0, .inr (11, [.ref a0, .ref a1, .ref a2, .ref a3, .ref a4, .ref a5, .ref a6, .ref a7, .ref a8, .ref a9, .ref a10, .int 0, .int 0, .int 0]))]) := by
  refine MetI.of (own := RX11) rfl (by decide) (Nat.le_of_ble_eq_true rfl) ?_
  intro p e s m below meth c A ls args Q hQ X hr hin hW hl
  have hx := X.1
  have hb := X.2.1
  have hl : lv_has ls 3 [(0, .ref h0), (1, .int p0)] := hl
  refine lv_aload_n (pc := 0) hx hb dX11_fewest_0 rfl (lv_at hl 0 rfl) ?_
  refine lv_iload_n (pc := 1) hx hb dX11_fewest_1 rfl (lv_at hl 1 rfl) ?_
  refine c_Vq (pc := 2) (As := [.int p0]) (rest := []) (wr := []) X hW 0 ciX11 rfl (C_X11_valleyAt l g h0 a0 a1 a2 a3 a4 a5 a6 a7 a8 a9 a10 p0) vX11_101 [0] [] rfl rfl rfl rfl rfl rfl hl.1 rfl (Nat.le_of_ble_eq_true rfl) ⟨Nat.le_of_ble_eq_true rfl, Nat.le_of_ble_eq_true rfl⟩ ⟨Nat.le_of_ble_eq_true rfl, Nat.le_of_ble_eq_true rfl⟩ dX11_fewest_2 (fun r1 u9 H locs hq hW => ?_)
  obtain ⟨rfl, rfl⟩ := hq
  have hW : WD g A s _ _ [(h0, .inr (11, [.ref a0, .ref a1, .ref a2, .ref a3, .ref a4, .ref a5, .ref a6, .ref a7, .ref a8, .ref a9, .ref a10, .int 0, .int 0, .int 0]))] := hW
  refine lv_astore_nN (lv' := [(2, .null), (0, .ref h0), (1, .int p0)]) (pc := 5) hx hb dX11_fewest_5 rfl hl (by decide) rfl (fun ls hl => ?_)
  refine lv_aload_nN (pc := 6) hx hb dX11_fewest_6 rfl (lv_at hl 0 rfl) ?_
  refine lv_ifnonnullN (pc := 7) hx hb dX11_fewest_7 ?_
  refine lv_iconst (v := (-1)) (pc := 10) hx hb dX11_fewest_10 (by decide) ?_
  refine lv_goto (tgt := 22) (pc := 11) hx hb dX11_fewest_11 rfl ?_
  exact e_i X hQ hr hW (u := [(h0, .inr (11, [.ref a0, .ref a1, .ref a2, .ref a3, .ref a4, .ref a5, .ref a6, .ref a7, .ref a8, .ref a9, .ref a10, .int 0, .int 0, .int 0]))]) [0] rfl rfl (⟨rfl, rfl⟩) ⟨Nat.le_of_ble_eq_true rfl, Nat.le_of_ble_eq_true rfl⟩ dX11_fewest_22

set_option maxHeartbeats 4000000 in
set_option maxRecDepth 100000 in
theorem C_X11_gossip (l : Launch) (g : GG) (h0 a0 a1 a2 a3 a4 a5 a6 a7 a8 a9 a10 : Nat) (p0 : Int32) (p1 : Int32) : MetI l g yX11_gossip cX11_gossip 4 (some .int) 1 0 0 [.ref h0, .int p0, .int p1] [(h0, .inr (11, [.ref a0, .ref a1, .ref a2, .ref a3, .ref a4, .ref a5, .ref a6, .ref a7, .ref a8, .ref a9, .ref a10, .int 0, .int 0, .int 0]))] (fun r u => r = (-1) ∧ u = [(h0, .inr (11, [.ref a0, .ref a1, .ref a2, .ref a3, .ref a4, .ref a5, .ref a6, .ref a7, .ref a8, .ref a9, .ref a10, .int 0, .int 0, .int 0]))]) := by
  refine MetI.of (own := RX11) rfl (by decide) (Nat.le_of_ble_eq_true rfl) ?_
  intro p e s m below meth c A ls args Q hQ X hr hin hW hl
  have hx := X.1
  have hb := X.2.1
  have hl : lv_has ls 4 [(0, .ref h0), (1, .int p0), (2, .int p1)] := hl
  refine lv_aload_n (pc := 0) hx hb dX11_gossip_0 rfl (lv_at hl 0 rfl) ?_
  refine lv_iload_n (pc := 1) hx hb dX11_gossip_1 rfl (lv_at hl 1 rfl) ?_
  refine c_Vq (pc := 2) (As := [.int p0]) (rest := []) (wr := []) X hW 0 ciX11 rfl (C_X11_valleyAt l g h0 a0 a1 a2 a3 a4 a5 a6 a7 a8 a9 a10 p0) vX11_101 [0] [] rfl rfl rfl rfl rfl rfl hl.1 rfl (Nat.le_of_ble_eq_true rfl) ⟨Nat.le_of_ble_eq_true rfl, Nat.le_of_ble_eq_true rfl⟩ ⟨Nat.le_of_ble_eq_true rfl, Nat.le_of_ble_eq_true rfl⟩ dX11_gossip_2 (fun r1 u9 H locs hq hW => ?_)
  obtain ⟨rfl, rfl⟩ := hq
  have hW : WD g A s _ _ [(h0, .inr (11, [.ref a0, .ref a1, .ref a2, .ref a3, .ref a4, .ref a5, .ref a6, .ref a7, .ref a8, .ref a9, .ref a10, .int 0, .int 0, .int 0]))] := hW
  refine lv_astore_nN (lv' := [(3, .null), (0, .ref h0), (1, .int p0), (2, .int p1)]) (pc := 5) hx hb dX11_gossip_5 rfl hl (by decide) rfl (fun ls hl => ?_)
  refine lv_aload_nN (pc := 6) hx hb dX11_gossip_6 rfl (lv_at hl 0 rfl) ?_
  refine lv_ifnullN (tgt := 26) (pc := 7) hx hb dX11_gossip_7 rfl ?_
  refine lv_iconst (v := (-1)) (pc := 26) hx hb dX11_gossip_26 (by decide) ?_
  exact e_i X hQ hr hW (u := [(h0, .inr (11, [.ref a0, .ref a1, .ref a2, .ref a3, .ref a4, .ref a5, .ref a6, .ref a7, .ref a8, .ref a9, .ref a10, .int 0, .int 0, .int 0]))]) [0] rfl rfl (⟨rfl, rfl⟩) ⟨Nat.le_of_ble_eq_true rfl, Nat.le_of_ble_eq_true rfl⟩ dX11_gossip_27

set_option maxHeartbeats 4000000 in
set_option maxRecDepth 100000 in
theorem C_X11_ends (l : Launch) (g : GG) (h0 a0 a1 a2 a3 a4 a5 a6 a7 a8 a9 a10 : Nat) (p0 : Int32) (p1 : Int32) : MetI l g yX11_ends cX11_ends 4 (some .int) 1 0 0 [.ref h0, .int p0, .int p1] [(h0, .inr (11, [.ref a0, .ref a1, .ref a2, .ref a3, .ref a4, .ref a5, .ref a6, .ref a7, .ref a8, .ref a9, .ref a10, .int 0, .int 0, .int 0]))] (fun r u => r = (-1) ∧ u = [(h0, .inr (11, [.ref a0, .ref a1, .ref a2, .ref a3, .ref a4, .ref a5, .ref a6, .ref a7, .ref a8, .ref a9, .ref a10, .int 0, .int 0, .int 0]))]) := by
  refine MetI.of (own := RX11) rfl (by decide) (Nat.le_of_ble_eq_true rfl) ?_
  intro p e s m below meth c A ls args Q hQ X hr hin hW hl
  have hx := X.1
  have hb := X.2.1
  have hl : lv_has ls 4 [(0, .ref h0), (1, .int p0), (2, .int p1)] := hl
  refine lv_aload_n (pc := 0) hx hb dX11_ends_0 rfl (lv_at hl 0 rfl) ?_
  refine lv_iload_n (pc := 1) hx hb dX11_ends_1 rfl (lv_at hl 1 rfl) ?_
  refine c_Vq (pc := 2) (As := [.int p0]) (rest := []) (wr := []) X hW 0 ciX11 rfl (C_X11_valleyAt l g h0 a0 a1 a2 a3 a4 a5 a6 a7 a8 a9 a10 p0) vX11_101 [0] [] rfl rfl rfl rfl rfl rfl hl.1 rfl (Nat.le_of_ble_eq_true rfl) ⟨Nat.le_of_ble_eq_true rfl, Nat.le_of_ble_eq_true rfl⟩ ⟨Nat.le_of_ble_eq_true rfl, Nat.le_of_ble_eq_true rfl⟩ dX11_ends_2 (fun r1 u9 H locs hq hW => ?_)
  obtain ⟨rfl, rfl⟩ := hq
  have hW : WD g A s _ _ [(h0, .inr (11, [.ref a0, .ref a1, .ref a2, .ref a3, .ref a4, .ref a5, .ref a6, .ref a7, .ref a8, .ref a9, .ref a10, .int 0, .int 0, .int 0]))] := hW
  refine lv_astore_nN (lv' := [(3, .null), (0, .ref h0), (1, .int p0), (2, .int p1)]) (pc := 5) hx hb dX11_ends_5 rfl hl (by decide) rfl (fun ls hl => ?_)
  refine lv_aload_nN (pc := 6) hx hb dX11_ends_6 rfl (lv_at hl 0 rfl) ?_
  refine lv_ifnullN (tgt := 26) (pc := 7) hx hb dX11_ends_7 rfl ?_
  refine lv_iconst (v := (-1)) (pc := 26) hx hb dX11_ends_26 (by decide) ?_
  exact e_i X hQ hr hW (u := [(h0, .inr (11, [.ref a0, .ref a1, .ref a2, .ref a3, .ref a4, .ref a5, .ref a6, .ref a7, .ref a8, .ref a9, .ref a10, .int 0, .int 0, .int 0]))]) [0] rfl rfl (⟨rfl, rfl⟩) ⟨Nat.le_of_ble_eq_true rfl, Nat.le_of_ble_eq_true rfl⟩ dX11_ends_27

set_option maxHeartbeats 4000000 in
set_option maxRecDepth 100000 in
theorem C_X11_trade (l : Launch) (g : GG) (h0 a0 a1 a2 a3 a4 a5 a6 a7 a8 a9 a10 : Nat) (p0 : Int32) (p1 : Int32) (p2 : Int32) : MetI l g yX11_trade cX11_trade 6 (some .int) 1 0 0 [.ref h0, .int p0, .int p1, .int p2] [(h0, .inr (11, [.ref a0, .ref a1, .ref a2, .ref a3, .ref a4, .ref a5, .ref a6, .ref a7, .ref a8, .ref a9, .ref a10, .int 0, .int 0, .int 0]))] (fun r u => r = (-1) ∧ u = [(h0, .inr (11, [.ref a0, .ref a1, .ref a2, .ref a3, .ref a4, .ref a5, .ref a6, .ref a7, .ref a8, .ref a9, .ref a10, .int 0, .int 0, .int 0]))]) := by
  refine MetI.of (own := RX11) rfl (by decide) (Nat.le_of_ble_eq_true rfl) ?_
  intro p e s m below meth c A ls args Q hQ X hr hin hW hl
  have hx := X.1
  have hb := X.2.1
  have hl : lv_has ls 6 [(0, .ref h0), (1, .int p0), (2, .int p1), (3, .int p2)] := hl
  refine lv_aload_n (pc := 0) hx hb dX11_trade_0 rfl (lv_at hl 0 rfl) ?_
  refine lv_iload_n (pc := 1) hx hb dX11_trade_1 rfl (lv_at hl 1 rfl) ?_
  refine c_Vq (pc := 2) (As := [.int p0]) (rest := []) (wr := []) X hW 0 ciX11 rfl (C_X11_valleyAt l g h0 a0 a1 a2 a3 a4 a5 a6 a7 a8 a9 a10 p0) vX11_101 [0] [] rfl rfl rfl rfl rfl rfl hl.1 rfl (Nat.le_of_ble_eq_true rfl) ⟨Nat.le_of_ble_eq_true rfl, Nat.le_of_ble_eq_true rfl⟩ ⟨Nat.le_of_ble_eq_true rfl, Nat.le_of_ble_eq_true rfl⟩ dX11_trade_2 (fun r1 u9 H locs hq hW => ?_)
  obtain ⟨rfl, rfl⟩ := hq
  have hW : WD g A s _ _ [(h0, .inr (11, [.ref a0, .ref a1, .ref a2, .ref a3, .ref a4, .ref a5, .ref a6, .ref a7, .ref a8, .ref a9, .ref a10, .int 0, .int 0, .int 0]))] := hW
  refine lv_astoreN (lv' := [(4, .null), (0, .ref h0), (1, .int p0), (2, .int p1), (3, .int p2)]) (pc := 5) hx hb dX11_trade_5 hl (by decide) rfl (fun ls hl => ?_)
  refine lv_aloadN (pc := 7) hx hb dX11_trade_7 (lv_at hl 0 rfl) ?_
  refine lv_ifnullN (tgt := 41) (pc := 9) hx hb dX11_trade_9 rfl ?_
  refine lv_iconst (v := (-1)) (pc := 41) hx hb dX11_trade_41 (by decide) ?_
  exact e_i X hQ hr hW (u := [(h0, .inr (11, [.ref a0, .ref a1, .ref a2, .ref a3, .ref a4, .ref a5, .ref a6, .ref a7, .ref a8, .ref a9, .ref a10, .int 0, .int 0, .int 0]))]) [0] rfl rfl (⟨rfl, rfl⟩) ⟨Nat.le_of_ble_eq_true rfl, Nat.le_of_ble_eq_true rfl⟩ dX11_trade_42

set_option maxHeartbeats 4000000 in
set_option maxRecDepth 100000 in
theorem C_X11_card (l : Launch) (g : GG) (h0 a0 a1 a2 a3 a4 a5 a6 a7 a8 a9 a10 : Nat) (p0 : Int32) (p1 : Int32) (p2 : Int32) : MetI l g yX11_card cX11_card 5 (some .int) 1 0 0 [.ref h0, .int p0, .int p1, .int p2] [(h0, .inr (11, [.ref a0, .ref a1, .ref a2, .ref a3, .ref a4, .ref a5, .ref a6, .ref a7, .ref a8, .ref a9, .ref a10, .int 0, .int 0, .int 0]))] (fun r u => r = (-1) ∧ u = [(h0, .inr (11, [.ref a0, .ref a1, .ref a2, .ref a3, .ref a4, .ref a5, .ref a6, .ref a7, .ref a8, .ref a9, .ref a10, .int 0, .int 0, .int 0]))]) := by
  refine MetI.of (own := RX11) rfl (by decide) (Nat.le_of_ble_eq_true rfl) ?_
  intro p e s m below meth c A ls args Q hQ X hr hin hW hl
  have hx := X.1
  have hb := X.2.1
  have hl : lv_has ls 5 [(0, .ref h0), (1, .int p0), (2, .int p1), (3, .int p2)] := hl
  refine lv_aload_n (pc := 0) hx hb dX11_card_0 rfl (lv_at hl 0 rfl) ?_
  refine lv_iload_n (pc := 1) hx hb dX11_card_1 rfl (lv_at hl 1 rfl) ?_
  refine c_Vq (pc := 2) (As := [.int p0]) (rest := []) (wr := []) X hW 0 ciX11 rfl (C_X11_valleyAt l g h0 a0 a1 a2 a3 a4 a5 a6 a7 a8 a9 a10 p0) vX11_101 [0] [] rfl rfl rfl rfl rfl rfl hl.1 rfl (Nat.le_of_ble_eq_true rfl) ⟨Nat.le_of_ble_eq_true rfl, Nat.le_of_ble_eq_true rfl⟩ ⟨Nat.le_of_ble_eq_true rfl, Nat.le_of_ble_eq_true rfl⟩ dX11_card_2 (fun r1 u9 H locs hq hW => ?_)
  obtain ⟨rfl, rfl⟩ := hq
  have hW : WD g A s _ _ [(h0, .inr (11, [.ref a0, .ref a1, .ref a2, .ref a3, .ref a4, .ref a5, .ref a6, .ref a7, .ref a8, .ref a9, .ref a10, .int 0, .int 0, .int 0]))] := hW
  refine lv_astoreN (lv' := [(4, .null), (0, .ref h0), (1, .int p0), (2, .int p1), (3, .int p2)]) (pc := 5) hx hb dX11_card_5 hl (by decide) rfl (fun ls hl => ?_)
  refine lv_aloadN (pc := 7) hx hb dX11_card_7 (lv_at hl 0 rfl) ?_
  refine lv_ifnullN (tgt := 22) (pc := 9) hx hb dX11_card_9 rfl ?_
  refine lv_iconst (v := (-1)) (pc := 22) hx hb dX11_card_22 (by decide) ?_
  exact e_i X hQ hr hW (u := [(h0, .inr (11, [.ref a0, .ref a1, .ref a2, .ref a3, .ref a4, .ref a5, .ref a6, .ref a7, .ref a8, .ref a9, .ref a10, .int 0, .int 0, .int 0]))]) [0] rfl rfl (⟨rfl, rfl⟩) ⟨Nat.le_of_ble_eq_true rfl, Nat.le_of_ble_eq_true rfl⟩ dX11_card_23

set_option maxHeartbeats 4000000 in
set_option maxRecDepth 100000 in
theorem C_X11_blank (l : Launch) (g : GG) (h0 a0 a1 a2 a3 a4 a5 a6 a7 a8 a9 a10 : Nat) (p0 : Int32) : MetI l g yX11_blank cX11_blank 3 (some .boolean) 1 0 0 [.ref h0, .int p0] [(h0, .inr (11, [.ref a0, .ref a1, .ref a2, .ref a3, .ref a4, .ref a5, .ref a6, .ref a7, .ref a8, .ref a9, .ref a10, .int 0, .int 0, .int 0]))] (fun r u => r = 0 ∧ u = [(h0, .inr (11, [.ref a0, .ref a1, .ref a2, .ref a3, .ref a4, .ref a5, .ref a6, .ref a7, .ref a8, .ref a9, .ref a10, .int 0, .int 0, .int 0]))]) := by
  refine MetI.of (own := RX11) rfl (by decide) (Nat.le_of_ble_eq_true rfl) ?_
  intro p e s m below meth c A ls args Q hQ X hr hin hW hl
  have hx := X.1
  have hb := X.2.1
  have hl : lv_has ls 3 [(0, .ref h0), (1, .int p0)] := hl
  refine lv_aload_n (pc := 0) hx hb dX11_blank_0 rfl (lv_at hl 0 rfl) ?_
  refine lv_iload_n (pc := 1) hx hb dX11_blank_1 rfl (lv_at hl 1 rfl) ?_
  refine c_Vq (pc := 2) (As := [.int p0]) (rest := []) (wr := []) X hW 0 ciX11 rfl (C_X11_valleyAt l g h0 a0 a1 a2 a3 a4 a5 a6 a7 a8 a9 a10 p0) vX11_101 [0] [] rfl rfl rfl rfl rfl rfl hl.1 rfl (Nat.le_of_ble_eq_true rfl) ⟨Nat.le_of_ble_eq_true rfl, Nat.le_of_ble_eq_true rfl⟩ ⟨Nat.le_of_ble_eq_true rfl, Nat.le_of_ble_eq_true rfl⟩ dX11_blank_2 (fun r1 u9 H locs hq hW => ?_)
  obtain ⟨rfl, rfl⟩ := hq
  have hW : WD g A s _ _ [(h0, .inr (11, [.ref a0, .ref a1, .ref a2, .ref a3, .ref a4, .ref a5, .ref a6, .ref a7, .ref a8, .ref a9, .ref a10, .int 0, .int 0, .int 0]))] := hW
  refine lv_astore_nN (lv' := [(2, .null), (0, .ref h0), (1, .int p0)]) (pc := 5) hx hb dX11_blank_5 rfl hl (by decide) rfl (fun ls hl => ?_)
  refine lv_aload_nN (pc := 6) hx hb dX11_blank_6 rfl (lv_at hl 0 rfl) ?_
  refine lv_ifnonnullN (pc := 7) hx hb dX11_blank_7 ?_
  refine lv_iconst (v := 0) (pc := 10) hx hb dX11_blank_10 (by decide) ?_
  exact e_z X hQ hr hW (u := [(h0, .inr (11, [.ref a0, .ref a1, .ref a2, .ref a3, .ref a4, .ref a5, .ref a6, .ref a7, .ref a8, .ref a9, .ref a10, .int 0, .int 0, .int 0]))]) rfl [0] rfl rfl (⟨rfl, rfl⟩) ⟨Nat.le_of_ble_eq_true rfl, Nat.le_of_ble_eq_true rfl⟩ dX11_blank_11

set_option maxHeartbeats 4000000 in
set_option maxRecDepth 100000 in
theorem C_X11_kept (l : Launch) (g : GG) (h0 a0 a1 a2 a3 a4 a5 a6 a7 a8 a9 a10 : Nat) (p0 : Int32) (p1 : Int32) : MetI l g yX11_kept cX11_kept 4 (some .int) 1 0 0 [.ref h0, .int p0, .int p1] [(h0, .inr (11, [.ref a0, .ref a1, .ref a2, .ref a3, .ref a4, .ref a5, .ref a6, .ref a7, .ref a8, .ref a9, .ref a10, .int 0, .int 0, .int 0]))] (fun r u => r = (-1) ∧ u = [(h0, .inr (11, [.ref a0, .ref a1, .ref a2, .ref a3, .ref a4, .ref a5, .ref a6, .ref a7, .ref a8, .ref a9, .ref a10, .int 0, .int 0, .int 0]))]) := by
  refine MetI.of (own := RX11) rfl (by decide) (Nat.le_of_ble_eq_true rfl) ?_
  intro p e s m below meth c A ls args Q hQ X hr hin hW hl
  have hx := X.1
  have hb := X.2.1
  have hl : lv_has ls 4 [(0, .ref h0), (1, .int p0), (2, .int p1)] := hl
  refine lv_aload_n (pc := 0) hx hb dX11_kept_0 rfl (lv_at hl 0 rfl) ?_
  refine lv_iload_n (pc := 1) hx hb dX11_kept_1 rfl (lv_at hl 1 rfl) ?_
  refine c_Vq (pc := 2) (As := [.int p0]) (rest := []) (wr := []) X hW 0 ciX11 rfl (C_X11_valleyAt l g h0 a0 a1 a2 a3 a4 a5 a6 a7 a8 a9 a10 p0) vX11_101 [0] [] rfl rfl rfl rfl rfl rfl hl.1 rfl (Nat.le_of_ble_eq_true rfl) ⟨Nat.le_of_ble_eq_true rfl, Nat.le_of_ble_eq_true rfl⟩ ⟨Nat.le_of_ble_eq_true rfl, Nat.le_of_ble_eq_true rfl⟩ dX11_kept_2 (fun r1 u9 H locs hq hW => ?_)
  obtain ⟨rfl, rfl⟩ := hq
  have hW : WD g A s _ _ [(h0, .inr (11, [.ref a0, .ref a1, .ref a2, .ref a3, .ref a4, .ref a5, .ref a6, .ref a7, .ref a8, .ref a9, .ref a10, .int 0, .int 0, .int 0]))] := hW
  refine lv_astore_nN (lv' := [(3, .null), (0, .ref h0), (1, .int p0), (2, .int p1)]) (pc := 5) hx hb dX11_kept_5 rfl hl (by decide) rfl (fun ls hl => ?_)
  refine lv_aload_nN (pc := 6) hx hb dX11_kept_6 rfl (lv_at hl 0 rfl) ?_
  refine lv_ifnullN (tgt := 18) (pc := 7) hx hb dX11_kept_7 rfl ?_
  refine lv_iconst (v := (-1)) (pc := 18) hx hb dX11_kept_18 (by decide) ?_
  exact e_i X hQ hr hW (u := [(h0, .inr (11, [.ref a0, .ref a1, .ref a2, .ref a3, .ref a4, .ref a5, .ref a6, .ref a7, .ref a8, .ref a9, .ref a10, .int 0, .int 0, .int 0]))]) [0] rfl rfl (⟨rfl, rfl⟩) ⟨Nat.le_of_ble_eq_true rfl, Nat.le_of_ble_eq_true rfl⟩ dX11_kept_19

set_option maxHeartbeats 4000000 in
set_option maxRecDepth 100000 in
theorem C_X11_tree (l : Launch) (g : GG) (h0 a0 a1 a2 a3 a4 a5 a6 a7 a8 a9 a10 : Nat) (p0 : Int32) (p1 : Int32) (p2 : Int32) (p3 : Int32) : MetI l g yX11_tree cX11_tree 6 (some .int) 1 0 0 [.ref h0, .int p0, .int p1, .int p2, .int p3] [(h0, .inr (11, [.ref a0, .ref a1, .ref a2, .ref a3, .ref a4, .ref a5, .ref a6, .ref a7, .ref a8, .ref a9, .ref a10, .int 0, .int 0, .int 0]))] (fun r u => r = (-1) ∧ u = [(h0, .inr (11, [.ref a0, .ref a1, .ref a2, .ref a3, .ref a4, .ref a5, .ref a6, .ref a7, .ref a8, .ref a9, .ref a10, .int 0, .int 0, .int 0]))]) := by
  refine MetI.of (own := RX11) rfl (by decide) (Nat.le_of_ble_eq_true rfl) ?_
  intro p e s m below meth c A ls args Q hQ X hr hin hW hl
  have hx := X.1
  have hb := X.2.1
  have hl : lv_has ls 6 [(0, .ref h0), (1, .int p0), (2, .int p1), (3, .int p2), (4, .int p3)] := hl
  refine lv_aload_n (pc := 0) hx hb dX11_tree_0 rfl (lv_at hl 0 rfl) ?_
  refine lv_iload_n (pc := 1) hx hb dX11_tree_1 rfl (lv_at hl 1 rfl) ?_
  refine c_Vq (pc := 2) (As := [.int p0]) (rest := []) (wr := []) X hW 0 ciX11 rfl (C_X11_valleyAt l g h0 a0 a1 a2 a3 a4 a5 a6 a7 a8 a9 a10 p0) vX11_101 [0] [] rfl rfl rfl rfl rfl rfl hl.1 rfl (Nat.le_of_ble_eq_true rfl) ⟨Nat.le_of_ble_eq_true rfl, Nat.le_of_ble_eq_true rfl⟩ ⟨Nat.le_of_ble_eq_true rfl, Nat.le_of_ble_eq_true rfl⟩ dX11_tree_2 (fun r1 u9 H locs hq hW => ?_)
  obtain ⟨rfl, rfl⟩ := hq
  have hW : WD g A s _ _ [(h0, .inr (11, [.ref a0, .ref a1, .ref a2, .ref a3, .ref a4, .ref a5, .ref a6, .ref a7, .ref a8, .ref a9, .ref a10, .int 0, .int 0, .int 0]))] := hW
  refine lv_astoreN (lv' := [(5, .null), (0, .ref h0), (1, .int p0), (2, .int p1), (3, .int p2), (4, .int p3)]) (pc := 5) hx hb dX11_tree_5 hl (by decide) rfl (fun ls hl => ?_)
  refine lv_aloadN (pc := 7) hx hb dX11_tree_7 (lv_at hl 0 rfl) ?_
  refine lv_ifnullN (tgt := 49) (pc := 9) hx hb dX11_tree_9 rfl ?_
  refine lv_iconst (v := (-1)) (pc := 49) hx hb dX11_tree_49 (by decide) ?_
  exact e_i X hQ hr hW (u := [(h0, .inr (11, [.ref a0, .ref a1, .ref a2, .ref a3, .ref a4, .ref a5, .ref a6, .ref a7, .ref a8, .ref a9, .ref a10, .int 0, .int 0, .int 0]))]) [0] rfl rfl (⟨rfl, rfl⟩) ⟨Nat.le_of_ble_eq_true rfl, Nat.le_of_ble_eq_true rfl⟩ dX11_tree_50

set_option maxHeartbeats 4000000 in
set_option maxRecDepth 100000 in
theorem C_X11_breaks (l : Launch) (g : GG) (h0 a0 a1 a2 a3 a4 a5 a6 a7 a8 a9 a10 : Nat) (p0 : Int32) (p1 : Int32) : MetI l g yX11_breaks cX11_breaks 5 (some .int) 1 0 0 [.ref h0, .int p0, .int p1] [(h0, .inr (11, [.ref a0, .ref a1, .ref a2, .ref a3, .ref a4, .ref a5, .ref a6, .ref a7, .ref a8, .ref a9, .ref a10, .int 0, .int 0, .int 0]))] (fun r u => r = (-1) ∧ u = [(h0, .inr (11, [.ref a0, .ref a1, .ref a2, .ref a3, .ref a4, .ref a5, .ref a6, .ref a7, .ref a8, .ref a9, .ref a10, .int 0, .int 0, .int 0]))]) := by
  refine MetI.of (own := RX11) rfl (by decide) (Nat.le_of_ble_eq_true rfl) ?_
  intro p e s m below meth c A ls args Q hQ X hr hin hW hl
  have hx := X.1
  have hb := X.2.1
  have hl : lv_has ls 5 [(0, .ref h0), (1, .int p0), (2, .int p1)] := hl
  refine lv_aload_n (pc := 0) hx hb dX11_breaks_0 rfl (lv_at hl 0 rfl) ?_
  refine lv_iload_n (pc := 1) hx hb dX11_breaks_1 rfl (lv_at hl 1 rfl) ?_
  refine c_Vq (pc := 2) (As := [.int p0]) (rest := []) (wr := []) X hW 0 ciX11 rfl (C_X11_planAt l g h0 a0 a1 a2 a3 a4 a5 a6 a7 a8 a9 a10 p0) vX11_157 [0] [] rfl rfl rfl rfl rfl rfl hl.1 rfl (Nat.le_of_ble_eq_true rfl) ⟨Nat.le_of_ble_eq_true rfl, Nat.le_of_ble_eq_true rfl⟩ ⟨Nat.le_of_ble_eq_true rfl, Nat.le_of_ble_eq_true rfl⟩ dX11_breaks_2 (fun r1 u9 H locs hq hW => ?_)
  obtain ⟨rfl, rfl⟩ := hq
  have hW : WD g A s _ _ [(h0, .inr (11, [.ref a0, .ref a1, .ref a2, .ref a3, .ref a4, .ref a5, .ref a6, .ref a7, .ref a8, .ref a9, .ref a10, .int 0, .int 0, .int 0]))] := hW
  refine lv_astore_nN (lv' := [(3, .null), (0, .ref h0), (1, .int p0), (2, .int p1)]) (pc := 5) hx hb dX11_breaks_5 rfl hl (by decide) rfl (fun ls hl => ?_)
  refine lv_aload_nN (pc := 6) hx hb dX11_breaks_6 rfl (lv_at hl 0 rfl) ?_
  refine lv_ifnullN (tgt := 15) (pc := 7) hx hb dX11_breaks_7 rfl ?_
  refine lv_iconst (v := (-1)) (pc := 15) hx hb dX11_breaks_15 (by decide) ?_
  exact e_i X hQ hr hW (u := [(h0, .inr (11, [.ref a0, .ref a1, .ref a2, .ref a3, .ref a4, .ref a5, .ref a6, .ref a7, .ref a8, .ref a9, .ref a10, .int 0, .int 0, .int 0]))]) [0] rfl rfl (⟨rfl, rfl⟩) ⟨Nat.le_of_ble_eq_true rfl, Nat.le_of_ble_eq_true rfl⟩ dX11_breaks_16

set_option maxHeartbeats 4000000 in
set_option maxRecDepth 100000 in
theorem C_X11_breaker (l : Launch) (g : GG) (h0 a0 a1 a2 a3 a4 a5 a6 a7 a8 a9 a10 : Nat) (p0 : Int32) : MetI l g yX11_breaker cX11_breaker 3 (some .int) 1 0 0 [.ref h0, .int p0] [(h0, .inr (11, [.ref a0, .ref a1, .ref a2, .ref a3, .ref a4, .ref a5, .ref a6, .ref a7, .ref a8, .ref a9, .ref a10, .int 0, .int 0, .int 0]))] (fun r u => r = (-1) ∧ u = [(h0, .inr (11, [.ref a0, .ref a1, .ref a2, .ref a3, .ref a4, .ref a5, .ref a6, .ref a7, .ref a8, .ref a9, .ref a10, .int 0, .int 0, .int 0]))]) := by
  refine MetI.of (own := RX11) rfl (by decide) (Nat.le_of_ble_eq_true rfl) ?_
  intro p e s m below meth c A ls args Q hQ X hr hin hW hl
  have hx := X.1
  have hb := X.2.1
  have hl : lv_has ls 3 [(0, .ref h0), (1, .int p0)] := hl
  refine lv_aload_n (pc := 0) hx hb dX11_breaker_0 rfl (lv_at hl 0 rfl) ?_
  refine lv_iload_n (pc := 1) hx hb dX11_breaker_1 rfl (lv_at hl 1 rfl) ?_
  refine c_Vq (pc := 2) (As := [.int p0]) (rest := []) (wr := []) X hW 0 ciX11 rfl (C_X11_planAt l g h0 a0 a1 a2 a3 a4 a5 a6 a7 a8 a9 a10 p0) vX11_157 [0] [] rfl rfl rfl rfl rfl rfl hl.1 rfl (Nat.le_of_ble_eq_true rfl) ⟨Nat.le_of_ble_eq_true rfl, Nat.le_of_ble_eq_true rfl⟩ ⟨Nat.le_of_ble_eq_true rfl, Nat.le_of_ble_eq_true rfl⟩ dX11_breaker_2 (fun r1 u9 H locs hq hW => ?_)
  obtain ⟨rfl, rfl⟩ := hq
  have hW : WD g A s _ _ [(h0, .inr (11, [.ref a0, .ref a1, .ref a2, .ref a3, .ref a4, .ref a5, .ref a6, .ref a7, .ref a8, .ref a9, .ref a10, .int 0, .int 0, .int 0]))] := hW
  refine lv_astore_nN (lv' := [(2, .null), (0, .ref h0), (1, .int p0)]) (pc := 5) hx hb dX11_breaker_5 rfl hl (by decide) rfl (fun ls hl => ?_)
  refine lv_aload_nN (pc := 6) hx hb dX11_breaker_6 rfl (lv_at hl 0 rfl) ?_
  refine lv_ifnonnullN (pc := 7) hx hb dX11_breaker_7 ?_
  refine lv_iconst (v := (-1)) (pc := 10) hx hb dX11_breaker_10 (by decide) ?_
  refine lv_goto (tgt := 22) (pc := 11) hx hb dX11_breaker_11 rfl ?_
  exact e_i X hQ hr hW (u := [(h0, .inr (11, [.ref a0, .ref a1, .ref a2, .ref a3, .ref a4, .ref a5, .ref a6, .ref a7, .ref a8, .ref a9, .ref a10, .int 0, .int 0, .int 0]))]) [0] rfl rfl (⟨rfl, rfl⟩) ⟨Nat.le_of_ble_eq_true rfl, Nat.le_of_ble_eq_true rfl⟩ dX11_breaker_22

set_option maxHeartbeats 4000000 in
set_option maxRecDepth 100000 in
theorem C_X11_tale (l : Launch) (g : GG) (h0 a0 a1 a2 a3 a4 a5 a6 a7 a8 a9 a10 : Nat) (p0 : Int32) (p1 : Int32) (p2 : Int32) (p3 : Int32) : MetI l g yX11_tale cX11_tale 6 (some .boolean) 1 0 0 [.ref h0, .int p0, .int p1, .int p2, .int p3] [(h0, .inr (11, [.ref a0, .ref a1, .ref a2, .ref a3, .ref a4, .ref a5, .ref a6, .ref a7, .ref a8, .ref a9, .ref a10, .int 0, .int 0, .int 0]))] (fun r u => r = 0 ∧ u = [(h0, .inr (11, [.ref a0, .ref a1, .ref a2, .ref a3, .ref a4, .ref a5, .ref a6, .ref a7, .ref a8, .ref a9, .ref a10, .int 0, .int 0, .int 0]))]) := by
  refine MetI.of (own := RX11) rfl (by decide) (Nat.le_of_ble_eq_true rfl) ?_
  intro p e s m below meth c A ls args Q hQ X hr hin hW hl
  have hx := X.1
  have hb := X.2.1
  have hl : lv_has ls 6 [(0, .ref h0), (1, .int p0), (2, .int p1), (3, .int p2), (4, .int p3)] := hl
  refine lv_aload_n (pc := 0) hx hb dX11_tale_0 rfl (lv_at hl 0 rfl) ?_
  refine lv_iload_n (pc := 1) hx hb dX11_tale_1 rfl (lv_at hl 1 rfl) ?_
  refine c_Vq (pc := 2) (As := [.int p0]) (rest := []) (wr := []) X hW 0 ciX11 rfl (C_X11_valleyAt l g h0 a0 a1 a2 a3 a4 a5 a6 a7 a8 a9 a10 p0) vX11_101 [0] [] rfl rfl rfl rfl rfl rfl hl.1 rfl (Nat.le_of_ble_eq_true rfl) ⟨Nat.le_of_ble_eq_true rfl, Nat.le_of_ble_eq_true rfl⟩ ⟨Nat.le_of_ble_eq_true rfl, Nat.le_of_ble_eq_true rfl⟩ dX11_tale_2 (fun r1 u9 H locs hq hW => ?_)
  obtain ⟨rfl, rfl⟩ := hq
  have hW : WD g A s _ _ [(h0, .inr (11, [.ref a0, .ref a1, .ref a2, .ref a3, .ref a4, .ref a5, .ref a6, .ref a7, .ref a8, .ref a9, .ref a10, .int 0, .int 0, .int 0]))] := hW
  refine lv_astoreN (lv' := [(5, .null), (0, .ref h0), (1, .int p0), (2, .int p1), (3, .int p2), (4, .int p3)]) (pc := 5) hx hb dX11_tale_5 hl (by decide) rfl (fun ls hl => ?_)
  refine lv_aloadN (pc := 7) hx hb dX11_tale_7 (lv_at hl 0 rfl) ?_
  refine lv_ifnullN (tgt := 42) (pc := 9) hx hb dX11_tale_9 rfl ?_
  refine lv_iconst (v := 0) (pc := 42) hx hb dX11_tale_42 (by decide) ?_
  exact e_z X hQ hr hW (u := [(h0, .inr (11, [.ref a0, .ref a1, .ref a2, .ref a3, .ref a4, .ref a5, .ref a6, .ref a7, .ref a8, .ref a9, .ref a10, .int 0, .int 0, .int 0]))]) rfl [0] rfl rfl (⟨rfl, rfl⟩) ⟨Nat.le_of_ble_eq_true rfl, Nat.le_of_ble_eq_true rfl⟩ dX11_tale_43

set_option maxHeartbeats 4000000 in
set_option maxRecDepth 100000 in
theorem C_X11_who (l : Launch) (g : GG) (h0 a0 a1 a2 a3 a4 a5 a6 a7 a8 a9 a10 : Nat) (p0 : Int32) (p1 : Int32) : MetI l g yX11_who cX11_who 6 (some .int) 1 0 0 [.ref h0, .int p0, .int p1] [(h0, .inr (11, [.ref a0, .ref a1, .ref a2, .ref a3, .ref a4, .ref a5, .ref a6, .ref a7, .ref a8, .ref a9, .ref a10, .int 0, .int 0, .int 0]))] (fun r u => r = (-1) ∧ u = [(h0, .inr (11, [.ref a0, .ref a1, .ref a2, .ref a3, .ref a4, .ref a5, .ref a6, .ref a7, .ref a8, .ref a9, .ref a10, .int 0, .int 0, .int 0]))]) := by
  refine MetI.of (own := RX11) rfl (by decide) (Nat.le_of_ble_eq_true rfl) ?_
  intro p e s m below meth c A ls args Q hQ X hr hin hW hl
  have hx := X.1
  have hb := X.2.1
  have hl : lv_has ls 6 [(0, .ref h0), (1, .int p0), (2, .int p1)] := hl
  refine lv_aload_n (pc := 0) hx hb dX11_who_0 rfl (lv_at hl 0 rfl) ?_
  refine lv_iload_n (pc := 1) hx hb dX11_who_1 rfl (lv_at hl 1 rfl) ?_
  refine c_Vq (pc := 2) (As := [.int p0]) (rest := []) (wr := []) X hW 0 ciX11 rfl (C_X11_valleyAt l g h0 a0 a1 a2 a3 a4 a5 a6 a7 a8 a9 a10 p0) vX11_101 [0] [] rfl rfl rfl rfl rfl rfl hl.1 rfl (Nat.le_of_ble_eq_true rfl) ⟨Nat.le_of_ble_eq_true rfl, Nat.le_of_ble_eq_true rfl⟩ ⟨Nat.le_of_ble_eq_true rfl, Nat.le_of_ble_eq_true rfl⟩ dX11_who_2 (fun r1 u9 H locs hq hW => ?_)
  obtain ⟨rfl, rfl⟩ := hq
  have hW : WD g A s _ _ [(h0, .inr (11, [.ref a0, .ref a1, .ref a2, .ref a3, .ref a4, .ref a5, .ref a6, .ref a7, .ref a8, .ref a9, .ref a10, .int 0, .int 0, .int 0]))] := hW
  refine lv_astore_nN (lv' := [(3, .null), (0, .ref h0), (1, .int p0), (2, .int p1)]) (pc := 5) hx hb dX11_who_5 rfl hl (by decide) rfl (fun ls hl => ?_)
  refine lv_aload_nN (pc := 6) hx hb dX11_who_6 rfl (lv_at hl 0 rfl) ?_
  refine lv_ifnullN (tgt := 17) (pc := 7) hx hb dX11_who_7 rfl ?_
  refine lv_iconst (v := (-1)) (pc := 17) hx hb dX11_who_17 (by decide) ?_
  exact e_i X hQ hr hW (u := [(h0, .inr (11, [.ref a0, .ref a1, .ref a2, .ref a3, .ref a4, .ref a5, .ref a6, .ref a7, .ref a8, .ref a9, .ref a10, .int 0, .int 0, .int 0]))]) [0] rfl rfl (⟨rfl, rfl⟩) ⟨Nat.le_of_ble_eq_true rfl, Nat.le_of_ble_eq_true rfl⟩ dX11_who_18

set_option maxHeartbeats 4000000 in
set_option maxRecDepth 100000 in
theorem C_X11_fits (l : Launch) (g : GG) (h0 a0 a1 a2 a3 a4 a5 a6 a7 a8 a9 a10 : Nat) (p0 : Int32) (p1 : Int32) : MetI l g yX11_fits cX11_fits 8 (some .int) 1 0 0 [.ref h0, .int p0, .int p1] [(h0, .inr (11, [.ref a0, .ref a1, .ref a2, .ref a3, .ref a4, .ref a5, .ref a6, .ref a7, .ref a8, .ref a9, .ref a10, .int 0, .int 0, .int 0]))] (fun r u => r = (-1) ∧ u = [(h0, .inr (11, [.ref a0, .ref a1, .ref a2, .ref a3, .ref a4, .ref a5, .ref a6, .ref a7, .ref a8, .ref a9, .ref a10, .int 0, .int 0, .int 0]))]) := by
  refine MetI.of (own := RX11) rfl (by decide) (Nat.le_of_ble_eq_true rfl) ?_
  intro p e s m below meth c A ls args Q hQ X hr hin hW hl
  have hx := X.1
  have hb := X.2.1
  have hl : lv_has ls 8 [(0, .ref h0), (1, .int p0), (2, .int p1)] := hl
  refine lv_aload_n (pc := 0) hx hb dX11_fits_0 rfl (lv_at hl 0 rfl) ?_
  refine lv_iload_n (pc := 1) hx hb dX11_fits_1 rfl (lv_at hl 1 rfl) ?_
  refine c_Vq (pc := 2) (As := [.int p0]) (rest := []) (wr := []) X hW 0 ciX11 rfl (C_X11_planAt l g h0 a0 a1 a2 a3 a4 a5 a6 a7 a8 a9 a10 p0) vX11_157 [0] [] rfl rfl rfl rfl rfl rfl hl.1 rfl (Nat.le_of_ble_eq_true rfl) ⟨Nat.le_of_ble_eq_true rfl, Nat.le_of_ble_eq_true rfl⟩ ⟨Nat.le_of_ble_eq_true rfl, Nat.le_of_ble_eq_true rfl⟩ dX11_fits_2 (fun r1 u9 H locs hq hW => ?_)
  obtain ⟨rfl, rfl⟩ := hq
  have hW : WD g A s _ _ [(h0, .inr (11, [.ref a0, .ref a1, .ref a2, .ref a3, .ref a4, .ref a5, .ref a6, .ref a7, .ref a8, .ref a9, .ref a10, .int 0, .int 0, .int 0]))] := hW
  refine lv_astore_nN (lv' := [(3, .null), (0, .ref h0), (1, .int p0), (2, .int p1)]) (pc := 5) hx hb dX11_fits_5 rfl hl (by decide) rfl (fun ls hl => ?_)
  refine lv_aload_nN (pc := 6) hx hb dX11_fits_6 rfl (lv_at hl 0 rfl) ?_
  refine lv_ifnullN (tgt := 17) (pc := 7) hx hb dX11_fits_7 rfl ?_
  refine lv_iconst (v := (-1)) (pc := 17) hx hb dX11_fits_17 (by decide) ?_
  exact e_i X hQ hr hW (u := [(h0, .inr (11, [.ref a0, .ref a1, .ref a2, .ref a3, .ref a4, .ref a5, .ref a6, .ref a7, .ref a8, .ref a9, .ref a10, .int 0, .int 0, .int 0]))]) [0] rfl rfl (⟨rfl, rfl⟩) ⟨Nat.le_of_ble_eq_true rfl, Nat.le_of_ble_eq_true rfl⟩ dX11_fits_18
